/-! left and age, word for word -/
noncomputable def q_left (a b c : Int32) : Int := j_cq (a.toInt = 0 ∨ a.toInt = 1) (j_cq ((0 ≤ b.toInt ∧ b.toInt ≤ 19999) ∧ (0 ≤ c.toInt ∧ c.toInt ≤ 3000)) 0 2) 1
noncomputable def q_age (a b c _d : Int32) : Int := j_cq (a.toInt = 0 ∨ a.toInt = 1) (j_cq ((0 ≤ b.toInt ∧ b.toInt ≤ 9999) ∧ (0 ≤ c.toInt ∧ c.toInt ≤ 9999)) 0 2) 1
def a_left (σ : Nat → Int32) (a b c : Int32) : Int32 := t_left (σ (j_pf a)) c.toNatClampNeg b
def a_age (σ : Nat → Int32) (a b c d : Int32) : Int32 := if d.toInt = 0 then t_early (σ (j_pf a)) b 3000 (Int32.ofInt 0) (b + c) else t_late (σ (j_pf a)) b 3000 (Int32.ofInt 0) (b + c)
theorem j_pfK (a : Int32) : j_aK (j_pf a) = true := by
  rcases j_pf34 a with ⟨_, q⟩ | ⟨_, q⟩
  · rw [q]; rfl
  · rw [q]; rfl
theorem a_left_c {σ τ : Nat → Int32} {a b c : Int32} (e : ∀ k, j_aK k = true → σ k = τ k) : a_left σ a b c = a_left τ a b c := by
  unfold a_left
  rw [e _ (j_pfK a)]
theorem a_age_c {σ τ : Nat → Int32} {a b c d : Int32} (e : ∀ k, j_aK k = true → σ k = τ k) : a_age σ a b c d = a_age τ a b c d := by
  unfold a_age
  rw [e _ (j_pfK a)]
theorem q_left_n {a b c : Int32} : q_left a b c = 0 ∨ q_left a b c = 1 ∨ q_left a b c = 2 ∨ q_left a b c = 3 := by
  unfold q_left
  rcases @j_cqc (a.toInt = 0 ∨ a.toInt = 1) (j_cq ((0 ≤ b.toInt ∧ b.toInt ≤ 19999) ∧ (0 ≤ c.toInt ∧ c.toInt ≤ 3000)) 0 2) 1 with e | e
  · rw [e]
    rcases @j_cqc ((0 ≤ b.toInt ∧ b.toInt ≤ 19999) ∧ (0 ≤ c.toInt ∧ c.toInt ≤ 3000)) 0 2 with e | e
    · exact Or.inl e
    · exact Or.inr (Or.inr (Or.inl e))
  · exact Or.inr (Or.inl e)
theorem q_age_n {a b c d : Int32} : q_age a b c d = 0 ∨ q_age a b c d = 1 ∨ q_age a b c d = 2 ∨ q_age a b c d = 3 := by
  unfold q_age
  rcases @j_cqc (a.toInt = 0 ∨ a.toInt = 1) (j_cq ((0 ≤ b.toInt ∧ b.toInt ≤ 9999) ∧ (0 ≤ c.toInt ∧ c.toInt ≤ 9999)) 0 2) 1 with e | e
  · rw [e]
    rcases @j_cqc ((0 ≤ b.toInt ∧ b.toInt ≤ 9999) ∧ (0 ≤ c.toInt ∧ c.toInt ≤ 9999)) 0 2 with e | e
    · exact Or.inl e
    · exact Or.inr (Or.inr (Or.inl e))
  · exact Or.inr (Or.inl e)
theorem j_TV.pf {σ : Nat → Int32} (t : j_TV σ) (a : Int32) : 2 ≤ (σ (j_pf a)).toInt := by
  rcases j_pf34 a with ⟨_, q⟩ | ⟨_, q⟩
  · rw [q]; exact t.1.1
  · rw [q]; exact t.2.1
theorem t_a0 {b : Int32} : b + Int32.ofInt 0 = b := by
  have e : (Int32.ofInt 0).toInt = 0 := by decide
  have u := j_ub b
  have l := j_lb b
  exact Int32.toInt_inj.mp (by rw [j_addI (by omega) (by omega), e]; omega)
theorem t_s0 {b : Int32} : b - Int32.ofInt 0 = b := by
  have e : (Int32.ofInt 0).toInt = 0 := by decide
  have u := j_ub b
  have l := j_lb b
  exact Int32.toInt_inj.mp (by rw [j_subI (by omega) (by omega), e]; omega)
theorem t_mx {c : Int32} (h : 0 ≤ c.toInt) : (if Int32.ofInt (0) < c then c else Int32.ofInt (0)) = c := by
  have e : (Int32.ofInt 0).toInt = 0 := by decide
  by_cases z : Int32.ofInt (0) < c
  · exact if_pos z
  · rw [if_neg z]
    rw [Int32.lt_iff_toInt_lt, e] at z
    exact Int32.toInt_inj.mp (by rw [e]; omega)
theorem t_pf {h : j_H} {x : Nat} {a : Int32} {v : Option j_V} (z : (a.toInt = 0 ∧ v = some (j_i (j_it h x 3))) ∨ (a.toInt ≠ 0 ∧ v = some (j_i (j_it h x 4)))) : v = some (j_i (j_ax h x (j_pf a))) := by
  rcases z with ⟨z, e⟩ | ⟨z, e⟩
  · rw [e, show j_pf a = 3 from if_pos z]; rfl
  · rw [e, show j_pf a = 4 from if_neg z]; rfl
set_option maxHeartbeats 4000000 in
set_option maxRecDepth 20000 in
theorem c_G_leftx {h : j_H} {x : Nat} {a : Int32} {b : Int32} {c : Int32} (hW : j_WF h x) (tv : j_TV (j_ax h x)) : j_Ct 113 6 90 1 6 [j_r (some x), j_i a, j_i b, j_i c] h (fun v h' => ((a.toInt = 0 ∨ a.toInt = 1) ∧ (0 ≤ b.toInt ∧ b.toInt ≤ 19999) ∧ (0 ≤ c.toInt ∧ c.toInt ≤ 3000)) ∧ v = some (j_i (a_left (j_ax h x) a b c)) ∧ h' = h) (fun k h' => ((k = 2 ∧ ¬ (a.toInt = 0 ∨ a.toInt = 1)) ∨ (k = 0 ∧ (a.toInt = 0 ∨ a.toInt = 1) ∧ ¬ ((0 ≤ b.toInt ∧ b.toInt ≤ 19999) ∧ (0 ≤ c.toInt ∧ c.toInt ≤ 3000)))) ∧ h' = h) := by
  refine j_intro km_113 (Nat.le_of_ble_eq_true rfl) ?_
  intro J hJ hF
  have kx := hW.1
  have z0 : (Int32.ofInt 0).toInt = 0 := by decide
  have z1 : (Int32.ofInt 1).toInt = 1 := by decide
  have z3000 : (Int32.ofInt 3000).toInt = 3000 := by decide
  have z19999 : (Int32.ofInt 19999).toInt = 19999 := by decide
  have p2 := tv.pf a
  refine hJ [] 400 _ _ _ _ _ _ ?_
  conv => whnf
  refine ⟨rfl, _, _, _, _, _, _, c_isClockx, ⟨Nat.le_of_ble_eq_true rfl, Nat.le_of_ble_eq_true rfl, Nat.le_of_ble_eq_true rfl, Nat.le_of_ble_eq_true rfl⟩, fun _ _ z => False.elim z, ?_⟩
  rintro v9 h9 ⟨e9, r1, rfl, zr1⟩
  obtain rfl : h = h9 := e9.symm
  conv => whnf
  refine ⟨fun c1 => ?_, fun c1 => ?_⟩
  rotate_left
  · have c1 : ¬ ¬ r1.toInt = 0 := c1
    have ka : ¬ (a.toInt = 0 ∨ a.toInt = 1) := by
      rcases zr1 with ⟨-, q⟩ | ⟨q, -⟩
      · rw [q, z1] at c1; exact absurd (by decide) c1
      · exact q
    conv => whnf
    exact ⟨⟨Nat.le_of_ble_eq_true rfl, Nat.le_of_ble_eq_true rfl⟩, ⟨Nat.le_of_ble_eq_true rfl, Nat.le_of_ble_eq_true rfl⟩, Or.inl ⟨rfl, ka⟩, rfl⟩
  have c1 : ¬ r1.toInt = 0 := c1
  have ka : a.toInt = 0 ∨ a.toInt = 1 := by
    rcases zr1 with ⟨q, -⟩ | ⟨-, q⟩
    · exact q
    · rw [q, z0] at c1; exact absurd rfl c1
  conv => whnf
  refine ⟨rfl, _, _, _, _, _, _, c_within, ⟨Nat.le_of_ble_eq_true rfl, Nat.le_of_ble_eq_true rfl, Nat.le_of_ble_eq_true rfl, Nat.le_of_ble_eq_true rfl⟩, fun _ _ z => False.elim z, ?_⟩
  rintro v9 h9 ⟨e9, r2, rfl, zr2⟩
  obtain rfl : h = h9 := e9.symm
  conv => whnf
  refine ⟨fun c2 => ?_, fun c2 => ?_⟩
  · have c2 : r2.toInt = 0 := c2
    have k2 : ¬ (0 ≤ b.toInt ∧ b.toInt ≤ 19999) := by
      rcases zr2 with ⟨-, -, q⟩ | ⟨q, -⟩
      · rw [q, z1] at c2; exact absurd c2 (by decide)
      · intro z
        refine q ⟨?_, ?_⟩
        · show (Int32.ofInt 0).toInt ≤ _; rw [z0]; exact z.1
        · show _ ≤ (Int32.ofInt 19999).toInt; rw [z19999]; exact z.2
    conv => whnf
    exact ⟨⟨Nat.le_of_ble_eq_true rfl, Nat.le_of_ble_eq_true rfl⟩, ⟨Nat.le_of_ble_eq_true rfl, Nat.le_of_ble_eq_true rfl⟩, Or.inr ⟨rfl, ka, fun z => k2 z.1⟩, rfl⟩
  have c2 : ¬ r2.toInt = 0 := c2
  have k2 : 0 ≤ b.toInt ∧ b.toInt ≤ 19999 := by
    rcases zr2 with ⟨q1, q2, -⟩ | ⟨-, q⟩
    · have q1 : (Int32.ofInt 0).toInt ≤ b.toInt := q1
      have q2 : b.toInt ≤ (Int32.ofInt 19999).toInt := q2
      rw [z0] at q1
      rw [z19999] at q2
      exact ⟨q1, q2⟩
    · rw [q, z0] at c2; exact absurd rfl c2
  conv => whnf
  refine ⟨rfl, _, _, _, _, _, _, c_within, ⟨Nat.le_of_ble_eq_true rfl, Nat.le_of_ble_eq_true rfl, Nat.le_of_ble_eq_true rfl, Nat.le_of_ble_eq_true rfl⟩, fun _ _ z => False.elim z, ?_⟩
  rintro v9 h9 ⟨e9, r3, rfl, zr3⟩
  obtain rfl : h = h9 := e9.symm
  conv => whnf
  refine ⟨fun c3 => ?_, fun c3 => ?_⟩
  rotate_left
  · have c3 : ¬ ¬ r3.toInt = 0 := c3
    have k3 : ¬ (0 ≤ c.toInt ∧ c.toInt ≤ 3000) := by
      rcases zr3 with ⟨-, -, q⟩ | ⟨q, -⟩
      · rw [q, z1] at c3; exact absurd (by decide) c3
      · intro z
        refine q ⟨?_, ?_⟩
        · show (Int32.ofInt 0).toInt ≤ _; rw [z0]; exact z.1
        · show _ ≤ (Int32.ofInt 3000).toInt; rw [z3000]; exact z.2
    conv => whnf
    exact ⟨⟨Nat.le_of_ble_eq_true rfl, Nat.le_of_ble_eq_true rfl⟩, ⟨Nat.le_of_ble_eq_true rfl, Nat.le_of_ble_eq_true rfl⟩, Or.inr ⟨rfl, ka, fun z => k3 z.2⟩, rfl⟩
  have c3 : ¬ r3.toInt = 0 := c3
  have k3 : 0 ≤ c.toInt ∧ c.toInt ≤ 3000 := by
    rcases zr3 with ⟨q1, q2, -⟩ | ⟨-, q⟩
    · have q1 : (Int32.ofInt 0).toInt ≤ c.toInt := q1
      have q2 : c.toInt ≤ (Int32.ofInt 3000).toInt := q2
      rw [z0] at q1
      rw [z3000] at q2
      exact ⟨q1, q2⟩
    · rw [q, z0] at c3; exact absurd rfl c3
  conv => whnf
  refine ⟨kx, rfl, _, _, _, _, _, _, c_paceOfx kx, ⟨Nat.le_of_ble_eq_true rfl, Nat.le_of_ble_eq_true rfl, Nat.le_of_ble_eq_true rfl, Nat.le_of_ble_eq_true rfl⟩, fun _ _ z => False.elim z, ?_⟩
  rintro v7 h7 ⟨e7, zp⟩
  obtain rfl : h = h7 := e7.symm
  obtain rfl := t_pf zp
  conv => whnf
  refine ⟨rfl, _, _, _, _, _, _, c_Table_leftx p2 k2.1 k3.1, ⟨Nat.le_of_ble_eq_true rfl, Nat.le_of_ble_eq_true rfl, Nat.le_of_ble_eq_true rfl, Nat.le_of_ble_eq_true rfl⟩, fun _ _ z => False.elim z, ?_⟩
  rintro v8 h8 ⟨e8, rfl⟩
  obtain rfl : h = h8 := e8.symm
  conv => whnf
  exact ⟨trivial, ⟨Nat.le_of_ble_eq_true rfl, Nat.le_of_ble_eq_true rfl⟩, ⟨ka, k2, k3⟩, rfl, rfl⟩
set_option maxHeartbeats 4000000 in
set_option maxRecDepth 20000 in
theorem c_G_agex {h : j_H} {x : Nat} {a : Int32} {b : Int32} {c : Int32} {d : Int32} (hW : j_WF h x) (tv : j_TV (j_ax h x)) : j_Ct 78 6 90 1 6 [j_r (some x), j_i a, j_i b, j_i c, j_i d] h (fun v h' => ((a.toInt = 0 ∨ a.toInt = 1) ∧ (0 ≤ b.toInt ∧ b.toInt ≤ 9999) ∧ (0 ≤ c.toInt ∧ c.toInt ≤ 9999)) ∧ v = some (j_i (a_age (j_ax h x) a b c d)) ∧ h' = h) (fun k h' => ((k = 2 ∧ ¬ (a.toInt = 0 ∨ a.toInt = 1)) ∨ (k = 0 ∧ (a.toInt = 0 ∨ a.toInt = 1) ∧ ¬ ((0 ≤ b.toInt ∧ b.toInt ≤ 9999) ∧ (0 ≤ c.toInt ∧ c.toInt ≤ 9999)))) ∧ h' = h) := by
  refine j_intro km_78 (Nat.le_of_ble_eq_true rfl) ?_
  intro J hJ hF
  have kx := hW.1
  have z0 : (Int32.ofInt 0).toInt = 0 := by decide
  have z1 : (Int32.ofInt 1).toInt = 1 := by decide
  have z9999 : (Int32.ofInt 9999).toInt = 9999 := by decide
  have p2 := tv.pf a
  refine hJ [] 400 _ _ _ _ _ _ ?_
  conv => whnf
  refine ⟨rfl, _, _, _, _, _, _, c_isClockx, ⟨Nat.le_of_ble_eq_true rfl, Nat.le_of_ble_eq_true rfl, Nat.le_of_ble_eq_true rfl, Nat.le_of_ble_eq_true rfl⟩, fun _ _ z => False.elim z, ?_⟩
  rintro v9 h9 ⟨e9, r1, rfl, zr1⟩
  obtain rfl : h = h9 := e9.symm
  conv => whnf
  refine ⟨fun c1 => ?_, fun c1 => ?_⟩
  rotate_left
  · have c1 : ¬ ¬ r1.toInt = 0 := c1
    have ka : ¬ (a.toInt = 0 ∨ a.toInt = 1) := by
      rcases zr1 with ⟨-, q⟩ | ⟨q, -⟩
      · rw [q, z1] at c1; exact absurd (by decide) c1
      · exact q
    conv => whnf
    exact ⟨⟨Nat.le_of_ble_eq_true rfl, Nat.le_of_ble_eq_true rfl⟩, ⟨Nat.le_of_ble_eq_true rfl, Nat.le_of_ble_eq_true rfl⟩, Or.inl ⟨rfl, ka⟩, rfl⟩
  have c1 : ¬ r1.toInt = 0 := c1
  have ka : a.toInt = 0 ∨ a.toInt = 1 := by
    rcases zr1 with ⟨q, -⟩ | ⟨-, q⟩
    · exact q
    · rw [q, z0] at c1; exact absurd rfl c1
  conv => whnf
  refine ⟨rfl, _, _, _, _, _, _, c_within, ⟨Nat.le_of_ble_eq_true rfl, Nat.le_of_ble_eq_true rfl, Nat.le_of_ble_eq_true rfl, Nat.le_of_ble_eq_true rfl⟩, fun _ _ z => False.elim z, ?_⟩
  rintro v9 h9 ⟨e9, r2, rfl, zr2⟩
  obtain rfl : h = h9 := e9.symm
  conv => whnf
  refine ⟨fun c2 => ?_, fun c2 => ?_⟩
  · have c2 : r2.toInt = 0 := c2
    have k2 : ¬ (0 ≤ b.toInt ∧ b.toInt ≤ 9999) := by
      rcases zr2 with ⟨-, -, q⟩ | ⟨q, -⟩
      · rw [q, z1] at c2; exact absurd c2 (by decide)
      · intro z
        refine q ⟨?_, ?_⟩
        · show (Int32.ofInt 0).toInt ≤ _; rw [z0]; exact z.1
        · show _ ≤ (Int32.ofInt 9999).toInt; rw [z9999]; exact z.2
    conv => whnf
    exact ⟨⟨Nat.le_of_ble_eq_true rfl, Nat.le_of_ble_eq_true rfl⟩, ⟨Nat.le_of_ble_eq_true rfl, Nat.le_of_ble_eq_true rfl⟩, Or.inr ⟨rfl, ka, fun z => k2 z.1⟩, rfl⟩
  have c2 : ¬ r2.toInt = 0 := c2
  have k2 : 0 ≤ b.toInt ∧ b.toInt ≤ 9999 := by
    rcases zr2 with ⟨q1, q2, -⟩ | ⟨-, q⟩
    · have q1 : (Int32.ofInt 0).toInt ≤ b.toInt := q1
      have q2 : b.toInt ≤ (Int32.ofInt 9999).toInt := q2
      rw [z0] at q1
      rw [z9999] at q2
      exact ⟨q1, q2⟩
    · rw [q, z0] at c2; exact absurd rfl c2
  conv => whnf
  refine ⟨rfl, _, _, _, _, _, _, c_within, ⟨Nat.le_of_ble_eq_true rfl, Nat.le_of_ble_eq_true rfl, Nat.le_of_ble_eq_true rfl, Nat.le_of_ble_eq_true rfl⟩, fun _ _ z => False.elim z, ?_⟩
  rintro v9 h9 ⟨e9, r3, rfl, zr3⟩
  obtain rfl : h = h9 := e9.symm
  conv => whnf
  refine ⟨fun c3 => ?_, fun c3 => ?_⟩
  rotate_left
  · have c3 : ¬ ¬ r3.toInt = 0 := c3
    have k3 : ¬ (0 ≤ c.toInt ∧ c.toInt ≤ 9999) := by
      rcases zr3 with ⟨-, -, q⟩ | ⟨q, -⟩
      · rw [q, z1] at c3; exact absurd (by decide) c3
      · intro z
        refine q ⟨?_, ?_⟩
        · show (Int32.ofInt 0).toInt ≤ _; rw [z0]; exact z.1
        · show _ ≤ (Int32.ofInt 9999).toInt; rw [z9999]; exact z.2
    conv => whnf
    exact ⟨⟨Nat.le_of_ble_eq_true rfl, Nat.le_of_ble_eq_true rfl⟩, ⟨Nat.le_of_ble_eq_true rfl, Nat.le_of_ble_eq_true rfl⟩, Or.inr ⟨rfl, ka, fun z => k3 z.2⟩, rfl⟩
  have c3 : ¬ r3.toInt = 0 := c3
  have k3 : 0 ≤ c.toInt ∧ c.toInt ≤ 9999 := by
    rcases zr3 with ⟨q1, q2, -⟩ | ⟨-, q⟩
    · have q1 : (Int32.ofInt 0).toInt ≤ c.toInt := q1
      have q2 : c.toInt ≤ (Int32.ofInt 9999).toInt := q2
      rw [z0] at q1
      rw [z9999] at q2
      exact ⟨q1, q2⟩
    · rw [q, z0] at c3; exact absurd rfl c3
  conv => whnf
  refine ⟨kx, rfl, _, _, _, _, _, _, c_paceOfx kx, ⟨Nat.le_of_ble_eq_true rfl, Nat.le_of_ble_eq_true rfl, Nat.le_of_ble_eq_true rfl, Nat.le_of_ble_eq_true rfl⟩, fun _ _ z => False.elim z, ?_⟩
  rintro v7 h7 ⟨e7, zp⟩
  obtain rfl : h = h7 := e7.symm
  obtain rfl := t_pf zp
  conv => whnf
  have hsum : 0 ≤ (b + c).toInt := by rw [j_addI (by omega) (by omega)]; omega
  have e1 : (b + Int32.ofInt 0) + (if Int32.ofInt (0) < (c - Int32.ofInt 0) then (c - Int32.ofInt 0) else Int32.ofInt (0)) = b + c := by rw [t_a0, t_s0, t_mx k3.1]
  have e2 : ((if Int32.ofInt (0) < (b - Int32.ofInt 0) then (b - Int32.ofInt 0) else Int32.ofInt (0)) + c) + Int32.ofInt 0 = b + c := by rw [t_a0, t_s0, t_mx k2.1]
  have e3 : (if Int32.ofInt (0) < (b - Int32.ofInt 0) then (b - Int32.ofInt 0) else Int32.ofInt (0)) = b := by rw [t_s0, t_mx k2.1]
  refine ⟨fun c8 => ?_, fun c8 => ?_⟩
  · have c8 : d.toInt = 0 := c8
    conv => whnf
    refine ⟨rfl, _, _, _, _, _, _, c_Table_earlyx p2 (by rw [e1]; exact hsum), ⟨Nat.le_of_ble_eq_true rfl, Nat.le_of_ble_eq_true rfl, Nat.le_of_ble_eq_true rfl, Nat.le_of_ble_eq_true rfl⟩, fun _ _ z => False.elim z, ?_⟩
    rintro v8 h8 ⟨e8, rfl⟩
    obtain rfl : h = h8 := e8.symm
    conv => whnf
    refine ⟨trivial, ⟨Nat.le_of_ble_eq_true rfl, Nat.le_of_ble_eq_true rfl⟩, ⟨ka, k2, k3⟩, ?_, rfl⟩
    rw [e1, t_a0]
    unfold a_age
    rw [if_pos c8]
  · have c8 : ¬ d.toInt = 0 := c8
    conv => whnf
    refine ⟨rfl, _, _, _, _, _, _, c_Table_latex p2 (by rw [e2]; exact hsum), ⟨Nat.le_of_ble_eq_true rfl, Nat.le_of_ble_eq_true rfl, Nat.le_of_ble_eq_true rfl, Nat.le_of_ble_eq_true rfl⟩, fun _ _ z => False.elim z, ?_⟩
    rintro v8 h8 ⟨e8, rfl⟩
    obtain rfl : h = h8 := e8.symm
    conv => whnf
    refine ⟨trivial, ⟨Nat.le_of_ble_eq_true rfl, Nat.le_of_ble_eq_true rfl⟩, ⟨ka, k2, k3⟩, ?_, rfl⟩
    rw [e2, e3]
    unfold a_age
    rw [if_neg c8]
set_option maxHeartbeats 4000000 in
set_option maxRecDepth 20000 in
theorem c_Lw_leftq {h : j_H} {x out : Nat} {a : Int32} {b : Int32} {c : Int32} (hW : j_WF h x) (ko : j_kd h out = some (.inl 9)) (tv : j_TV (j_ax h x)) : j_Ct 236 7 113 1 6 [j_r (some x), j_i a, j_i b, j_i c, j_r (some out)] h (j_LQ x out h (q_left a b c) (a_left (j_ax h x) a b c) (j_ax h x)) j_no := by
  refine j_intro km_236 (Nat.le_of_ble_eq_true rfl) ?_
  intro J hJ hF
  refine hJ [] 400 _ _ _ _ _ _ ?_
  conv => whnf
  refine ⟨hW.1, rfl, _, _, _, _, _, _, c_G_leftx hW tv, ⟨Nat.le_of_ble_eq_true rfl, Nat.le_of_ble_eq_true rfl, Nat.le_of_ble_eq_true rfl, Nat.le_of_ble_eq_true rfl⟩, ?_, ?_⟩
  · rintro k9 h9 ⟨hk, e9⟩
    obtain rfl : h = h9 := e9.symm
    rcases hk with ⟨rfl, c1⟩ | ⟨rfl, c1, c2⟩
    · conv => whnf
      intro a9
      conv => whnf
      exact ⟨trivial, ⟨Nat.le_of_ble_eq_true rfl, Nat.le_of_ble_eq_true rfl⟩, j_LQ.no hW (j_cqn c1) (by decide)⟩
    · conv => whnf
      intro a9
      conv => whnf
      exact ⟨trivial, ⟨Nat.le_of_ble_eq_true rfl, Nat.le_of_ble_eq_true rfl⟩, j_LQ.no hW ((j_cqp c1).trans (j_cqn c2)) (by decide)⟩
  · rintro v9 h9 ⟨⟨c1, c2⟩, rfl, e9⟩
    obtain rfl : h = h9 := e9.symm
    conv => whnf
    refine ⟨_, rfl, ko, ?_⟩
    conv => whnf
    exact ⟨trivial, ⟨Nat.le_of_ble_eq_true rfl, Nat.le_of_ble_eq_true rfl⟩, j_LQ.ok ko ((j_cqp c1).trans (j_cqp c2)) (j_Fr.keep hW j_On.rf hW.2.1).fs (fun _ _ => rfl)⟩
set_option maxHeartbeats 4000000 in
set_option maxRecDepth 20000 in
theorem c_Lw_ageq {h : j_H} {x out : Nat} {a : Int32} {b : Int32} {c : Int32} {d : Int32} (hW : j_WF h x) (ko : j_kd h out = some (.inl 9)) (tv : j_TV (j_ax h x)) : j_Ct 231 7 115 1 6 [j_r (some x), j_i a, j_i b, j_i c, j_i d, j_r (some out)] h (j_LQ x out h (q_age a b c d) (a_age (j_ax h x) a b c d) (j_ax h x)) j_no := by
  refine j_intro km_231 (Nat.le_of_ble_eq_true rfl) ?_
  intro J hJ hF
  refine hJ [] 400 _ _ _ _ _ _ ?_
  conv => whnf
  refine ⟨hW.1, rfl, _, _, _, _, _, _, c_G_agex hW tv, ⟨Nat.le_of_ble_eq_true rfl, Nat.le_of_ble_eq_true rfl, Nat.le_of_ble_eq_true rfl, Nat.le_of_ble_eq_true rfl⟩, ?_, ?_⟩
  · rintro k9 h9 ⟨hk, e9⟩
    obtain rfl : h = h9 := e9.symm
    rcases hk with ⟨rfl, c1⟩ | ⟨rfl, c1, c2⟩
    · conv => whnf
      intro a9
      conv => whnf
      exact ⟨trivial, ⟨Nat.le_of_ble_eq_true rfl, Nat.le_of_ble_eq_true rfl⟩, j_LQ.no hW (j_cqn c1) (by decide)⟩
    · conv => whnf
      intro a9
      conv => whnf
      exact ⟨trivial, ⟨Nat.le_of_ble_eq_true rfl, Nat.le_of_ble_eq_true rfl⟩, j_LQ.no hW ((j_cqp c1).trans (j_cqn c2)) (by decide)⟩
  · rintro v9 h9 ⟨⟨c1, c2⟩, rfl, e9⟩
    obtain rfl : h = h9 := e9.symm
    conv => whnf
    refine ⟨_, rfl, ko, ?_⟩
    conv => whnf
    exact ⟨trivial, ⟨Nat.le_of_ble_eq_true rfl, Nat.le_of_ble_eq_true rfl⟩, j_LQ.ok ko ((j_cqp c1).trans (j_cqp c2)) (j_Fr.keep hW j_On.rf hW.2.1).fs (fun _ _ => rfl)⟩
set_option maxHeartbeats 4000000 in
set_option maxRecDepth 20000 in
theorem c_Mo_leftq {ρ : Nat → Nat} {h : j_H} {m P G R Q : Nat} {a : Int32} {b : Int32} {c : Int32} (w : j_MX ρ h m P G R Q) (tv : j_TV (j_am h m P G R)) : j_Ct 193 1 24 0 0 [j_r (some m), j_i a, j_i b, j_i c] h (j_MQ m P G R Q h (q_left a b c) (a_left (j_am h m P G R) a b c) (j_am h m P G R)) j_no := by
  refine j_intro km_193 (Nat.le_of_ble_eq_true rfl) ?_
  intro J hJ hF
  have wb := w.b
  refine hJ [] 400 _ _ _ _ _ _ ?_
  conv => whnf
  refine ⟨_, rfl, w.km, ?_⟩
  show j_go _ _ _ _ _ _ _ _ _ _ (j_up h m 0 (j_i (Int32.ofInt (0)))) _ _
  have st1 : j_Mf ρ m h (j_up h m 0 (j_i (Int32.ofInt (0)))) := j_Mf.fi w.km (by decide)
  have tH1 : j_it (j_up h m 0 (j_i (Int32.ofInt (0)))) m 0 = Int32.ofInt 0 := j_upi
  generalize j_up h m 0 (j_i (Int32.ofInt (0))) = H1 at st1 tH1 ⊢
  have zG1 := congrArg Int32.toInt (st1.sz w.lG.1)
  have zR1 := congrArg Int32.toInt (st1.sz w.lR.1)
  have zQ1 := congrArg Int32.toInt (st1.sz w.lQ.1)
  have w1 := w.f st1
  have f1_0 := (j_Mf.rf : j_Mf ρ m h h).tr st1
  have q2 : (Int32.ofInt (0)).toInt = 0 := by decide
  have q3 : (Int32.ofInt (1)).toInt = 1 := by decide
  conv => whnf
  refine ⟨rfl, _, _, _, _, _, _, c_Mo_isx, ⟨Nat.le_of_ble_eq_true rfl, Nat.le_of_ble_eq_true rfl, by (try dsimp only); omega, by (try dsimp only); omega⟩, fun _ _ z => False.elim z, ?_⟩
  rintro v9 h9 ⟨e9, r4, rfl, zr4⟩
  have mr4 := j_zx zr4
  obtain rfl : H1 = h9 := e9.symm
  conv => whnf
  refine ⟨fun c5 => ?_, fun c5 => ?_⟩
  · have c5 : ¬ (r4).toInt = 0 := c5
    have q6 : (Int32.ofInt (0)).toInt = 0 := by decide
    have q7 : ((Int16.ofInt (19999)).toInt32).toInt = 19999 := by decide
    conv => whnf
    refine ⟨rfl, _, _, _, _, _, _, c_Mo_isx, ⟨Nat.le_of_ble_eq_true rfl, Nat.le_of_ble_eq_true rfl, by (try dsimp only); omega, by (try dsimp only); omega⟩, fun _ _ z => False.elim z, ?_⟩
    rintro v9 h9 ⟨e9, r8, rfl, zr8⟩
    have mr8 := j_zx zr8
    obtain rfl : H1 = h9 := e9.symm
    conv => whnf
    refine ⟨fun c9 => ?_, fun c9 => ?_⟩
    · have c9 : (r8).toInt = 0 := c9
      have q10 : (Int32.ofInt (2)).toInt = 2 := by decide
      conv => whnf
      refine ⟨w1.km, rfl, _, _, _, _, _, _, c_Mo_refusex w1.km, ⟨Nat.le_of_ble_eq_true rfl, Nat.le_of_ble_eq_true rfl, by (try dsimp only); omega, by (try dsimp only); omega⟩, fun _ _ z => False.elim z, ?_⟩
      rintro v9 H12 ⟨rfl, eH12⟩
      have st13 : j_Mf ρ m H1 H12 := by rw [eH12]; exact j_Mf.fi w1.km (by decide)
      have tH12 : j_it H12 m 0 = Int32.ofInt 2 := by rw [eH12]; exact j_upi
      have zG14 := congrArg Int32.toInt (st13.sz w1.lG.1)
      have zR14 := congrArg Int32.toInt (st13.sz w1.lR.1)
      have zQ14 := congrArg Int32.toInt (st13.sz w1.lQ.1)
      have w14 := w1.f st13
      have f14_0 := f1_0.tr st13
      conv => whnf
      exact ⟨trivial, ⟨by (try dsimp only); omega, by (try dsimp only); omega⟩, j_MQ.no w f14_0 tH12 ((j_cqp (by omega)).trans (j_cqn (by omega))) (by decide)⟩
    · have c9 : ¬ (r8).toInt = 0 := c9
      have q15 : (Int32.ofInt (0)).toInt = 0 := by decide
      have q16 : ((Int16.ofInt (3000)).toInt32).toInt = 3000 := by decide
      conv => whnf
      refine ⟨rfl, _, _, _, _, _, _, c_Mo_isx, ⟨Nat.le_of_ble_eq_true rfl, Nat.le_of_ble_eq_true rfl, by (try dsimp only); omega, by (try dsimp only); omega⟩, fun _ _ z => False.elim z, ?_⟩
      rintro v9 h9 ⟨e9, r17, rfl, zr17⟩
      have mr17 := j_zx zr17
      obtain rfl : H1 = h9 := e9.symm
      conv => whnf
      refine ⟨fun c18 => ?_, fun c18 => ?_⟩
      · have c18 : (r17).toInt = 0 := c18
        have q19 : (Int32.ofInt (2)).toInt = 2 := by decide
        conv => whnf
        refine ⟨w1.km, rfl, _, _, _, _, _, _, c_Mo_refusex w1.km, ⟨Nat.le_of_ble_eq_true rfl, Nat.le_of_ble_eq_true rfl, by (try dsimp only); omega, by (try dsimp only); omega⟩, fun _ _ z => False.elim z, ?_⟩
        rintro v9 H21 ⟨rfl, eH21⟩
        have st22 : j_Mf ρ m H1 H21 := by rw [eH21]; exact j_Mf.fi w1.km (by decide)
        have tH21 : j_it H21 m 0 = Int32.ofInt 2 := by rw [eH21]; exact j_upi
        have zG23 := congrArg Int32.toInt (st22.sz w1.lG.1)
        have zR23 := congrArg Int32.toInt (st22.sz w1.lR.1)
        have zQ23 := congrArg Int32.toInt (st22.sz w1.lQ.1)
        have w23 := w1.f st22
        have f23_0 := f1_0.tr st22
        conv => whnf
        exact ⟨trivial, ⟨by (try dsimp only); omega, by (try dsimp only); omega⟩, j_MQ.no w f23_0 tH21 ((j_cqp (by omega)).trans (j_cqn (by omega))) (by decide)⟩
      · have c18 : ¬ (r17).toInt = 0 := c18
        conv => whnf
        refine ⟨_, rfl, w1.km, fun o24 eo => ?_⟩
        obtain rfl : o24 = some P := eo.symm.trans w1.eP
        have n25 := w1.nP
        conv => whnf
        refine ⟨_, _, rfl, w1.kP, rfl, j_vp (by omega) (by omega), fun x26 ex26 => ?_⟩
        have cl : (a.toNatClampNeg : Int) = a.toInt := j_clamp (by omega)
        have xp : x26 = j_am h m P G R (j_pf a) := by
          rcases j_pf34 a with ⟨y1, y2⟩ | ⟨y1, y2⟩
          · rw [y2, ← st1.am w 3 rfl, ← ex26, show a.toNatClampNeg = 0 by omega]; rfl
          · rw [y2, ← st1.am w 4 rfl, ← ex26, show a.toNatClampNeg = 1 by omega]; rfl
        have p2 : 2 ≤ x26.toInt := by rw [xp]; exact tv.pf a
        conv => whnf
        refine ⟨rfl, _, _, _, _, _, _, c_Mo_leftx p2 (by omega) (by omega), ⟨Nat.le_of_ble_eq_true rfl, Nat.le_of_ble_eq_true rfl, by (try dsimp only); omega, by (try dsimp only); omega⟩, fun _ _ z => False.elim z, ?_⟩
        rintro v9 h9 ⟨e9, rfl⟩
        obtain rfl : H1 = h9 := e9.symm
        conv => whnf
        exact ⟨trivial, ⟨by (try dsimp only); omega, by (try dsimp only); omega⟩, j_MQ.ok ⟨ρ, w1⟩ (f1_0.mg w) tH1 ((j_cqp (by omega)).trans (j_cqp (by omega))) (f1_0.am w) (by rw [xp]; rfl)⟩
  · have c5 : ¬ ¬ (r4).toInt = 0 := c5
    have q28 : (Int32.ofInt (1)).toInt = 1 := by decide
    conv => whnf
    refine ⟨w1.km, rfl, _, _, _, _, _, _, c_Mo_refusex w1.km, ⟨Nat.le_of_ble_eq_true rfl, Nat.le_of_ble_eq_true rfl, by (try dsimp only); omega, by (try dsimp only); omega⟩, fun _ _ z => False.elim z, ?_⟩
    rintro v9 H30 ⟨rfl, eH30⟩
    have st31 : j_Mf ρ m H1 H30 := by rw [eH30]; exact j_Mf.fi w1.km (by decide)
    have tH30 : j_it H30 m 0 = Int32.ofInt 1 := by rw [eH30]; exact j_upi
    have zG32 := congrArg Int32.toInt (st31.sz w1.lG.1)
    have zR32 := congrArg Int32.toInt (st31.sz w1.lR.1)
    have zQ32 := congrArg Int32.toInt (st31.sz w1.lQ.1)
    have w32 := w1.f st31
    have f32_0 := f1_0.tr st31
    conv => whnf
    exact ⟨trivial, ⟨by (try dsimp only); omega, by (try dsimp only); omega⟩, j_MQ.no w f32_0 tH30 (j_cqn (by omega)) (by decide)⟩
set_option maxHeartbeats 4000000 in
set_option maxRecDepth 20000 in
theorem c_Mo_ageq {ρ : Nat → Nat} {h : j_H} {m P G R Q : Nat} {a : Int32} {b : Int32} {c : Int32} {d : Int32} (w : j_MX ρ h m P G R Q) (tv : j_TV (j_am h m P G R)) : j_Ct 167 1 24 0 0 [j_r (some m), j_i a, j_i b, j_i c, j_i d] h (j_MQ m P G R Q h (q_age a b c d) (a_age (j_am h m P G R) a b c d) (j_am h m P G R)) j_no := by
  refine j_intro km_167 (Nat.le_of_ble_eq_true rfl) ?_
  intro J hJ hF
  have wb := w.b
  refine hJ [] 400 _ _ _ _ _ _ ?_
  conv => whnf
  refine ⟨_, rfl, w.km, ?_⟩
  show j_go _ _ _ _ _ _ _ _ _ _ (j_up h m 0 (j_i (Int32.ofInt (0)))) _ _
  have st1 : j_Mf ρ m h (j_up h m 0 (j_i (Int32.ofInt (0)))) := j_Mf.fi w.km (by decide)
  have tH1 : j_it (j_up h m 0 (j_i (Int32.ofInt (0)))) m 0 = Int32.ofInt 0 := j_upi
  generalize j_up h m 0 (j_i (Int32.ofInt (0))) = H1 at st1 tH1 ⊢
  have zG1 := congrArg Int32.toInt (st1.sz w.lG.1)
  have zR1 := congrArg Int32.toInt (st1.sz w.lR.1)
  have zQ1 := congrArg Int32.toInt (st1.sz w.lQ.1)
  have w1 := w.f st1
  have f1_0 := (j_Mf.rf : j_Mf ρ m h h).tr st1
  have q2 : (Int32.ofInt (0)).toInt = 0 := by decide
  have q3 : (Int32.ofInt (1)).toInt = 1 := by decide
  conv => whnf
  refine ⟨rfl, _, _, _, _, _, _, c_Mo_isx, ⟨Nat.le_of_ble_eq_true rfl, Nat.le_of_ble_eq_true rfl, by (try dsimp only); omega, by (try dsimp only); omega⟩, fun _ _ z => False.elim z, ?_⟩
  rintro v9 h9 ⟨e9, r4, rfl, zr4⟩
  have mr4 := j_zx zr4
  obtain rfl : H1 = h9 := e9.symm
  conv => whnf
  refine ⟨fun c5 => ?_, fun c5 => ?_⟩
  · have c5 : ¬ (r4).toInt = 0 := c5
    have q6 : (Int32.ofInt (0)).toInt = 0 := by decide
    have q7 : ((Int16.ofInt (9999)).toInt32).toInt = 9999 := by decide
    conv => whnf
    refine ⟨rfl, _, _, _, _, _, _, c_Mo_isx, ⟨Nat.le_of_ble_eq_true rfl, Nat.le_of_ble_eq_true rfl, by (try dsimp only); omega, by (try dsimp only); omega⟩, fun _ _ z => False.elim z, ?_⟩
    rintro v9 h9 ⟨e9, r8, rfl, zr8⟩
    have mr8 := j_zx zr8
    obtain rfl : H1 = h9 := e9.symm
    conv => whnf
    refine ⟨fun c9 => ?_, fun c9 => ?_⟩
    · have c9 : (r8).toInt = 0 := c9
      have q10 : (Int32.ofInt (2)).toInt = 2 := by decide
      conv => whnf
      refine ⟨w1.km, rfl, _, _, _, _, _, _, c_Mo_refusex w1.km, ⟨Nat.le_of_ble_eq_true rfl, Nat.le_of_ble_eq_true rfl, by (try dsimp only); omega, by (try dsimp only); omega⟩, fun _ _ z => False.elim z, ?_⟩
      rintro v9 H12 ⟨rfl, eH12⟩
      have st13 : j_Mf ρ m H1 H12 := by rw [eH12]; exact j_Mf.fi w1.km (by decide)
      have tH12 : j_it H12 m 0 = Int32.ofInt 2 := by rw [eH12]; exact j_upi
      have zG14 := congrArg Int32.toInt (st13.sz w1.lG.1)
      have zR14 := congrArg Int32.toInt (st13.sz w1.lR.1)
      have zQ14 := congrArg Int32.toInt (st13.sz w1.lQ.1)
      have w14 := w1.f st13
      have f14_0 := f1_0.tr st13
      conv => whnf
      exact ⟨trivial, ⟨by (try dsimp only); omega, by (try dsimp only); omega⟩, j_MQ.no w f14_0 tH12 ((j_cqp (by omega)).trans (j_cqn (by omega))) (by decide)⟩
    · have c9 : ¬ (r8).toInt = 0 := c9
      have q15 : (Int32.ofInt (0)).toInt = 0 := by decide
      have q16 : ((Int16.ofInt (9999)).toInt32).toInt = 9999 := by decide
      conv => whnf
      refine ⟨rfl, _, _, _, _, _, _, c_Mo_isx, ⟨Nat.le_of_ble_eq_true rfl, Nat.le_of_ble_eq_true rfl, by (try dsimp only); omega, by (try dsimp only); omega⟩, fun _ _ z => False.elim z, ?_⟩
      rintro v9 h9 ⟨e9, r17, rfl, zr17⟩
      have mr17 := j_zx zr17
      obtain rfl : H1 = h9 := e9.symm
      conv => whnf
      refine ⟨fun c18 => ?_, fun c18 => ?_⟩
      · have c18 : ¬ (r17).toInt = 0 := c18
        conv => whnf
        refine ⟨fun c19 => ?_, fun c19 => ?_⟩
        · have c19 : (d).toInt = 0 := c19
          conv => whnf
          refine ⟨_, rfl, w1.km, fun o20 eo => ?_⟩
          obtain rfl : o20 = some P := eo.symm.trans w1.eP
          have n21 := w1.nP
          conv => whnf
          refine ⟨_, _, rfl, w1.kP, rfl, j_vp (by omega) (by omega), fun x22 ex22 => ?_⟩
          have cl : (a.toNatClampNeg : Int) = a.toInt := j_clamp (by omega)
          have xp : x22 = j_am h m P G R (j_pf a) := by
            rcases j_pf34 a with ⟨y1, y2⟩ | ⟨y1, y2⟩
            · rw [y2, ← st1.am w 3 rfl, ← ex22, show a.toNatClampNeg = 0 by omega]; rfl
            · rw [y2, ← st1.am w 4 rfl, ← ex22, show a.toNatClampNeg = 1 by omega]; rfl
          have p2 : 2 ≤ x22.toInt := by rw [xp]; exact tv.pf a
          have hsum : 0 ≤ (b + c).toInt := by rw [j_addI (by omega) (by omega)]; omega
          conv => whnf
          refine ⟨rfl, _, _, _, _, _, _, c_Mo_earlix p2 hsum, ⟨Nat.le_of_ble_eq_true rfl, Nat.le_of_ble_eq_true rfl, by (try dsimp only); omega, by (try dsimp only); omega⟩, fun _ _ z => False.elim z, ?_⟩
          rintro v9 h9 ⟨e9, rfl⟩
          obtain rfl : H1 = h9 := e9.symm
          conv => whnf
          exact ⟨trivial, ⟨by (try dsimp only); omega, by (try dsimp only); omega⟩, j_MQ.ok ⟨ρ, w1⟩ (f1_0.mg w) tH1 ((j_cqp (by omega)).trans (j_cqp (by omega))) (f1_0.am w) (by rw [xp]; unfold a_age; first | rw [if_pos c19] | rw [if_neg c19])⟩
        · have c19 : ¬ (d).toInt = 0 := c19
          conv => whnf
          refine ⟨_, rfl, w1.km, fun o24 eo => ?_⟩
          obtain rfl : o24 = some P := eo.symm.trans w1.eP
          have n25 := w1.nP
          conv => whnf
          refine ⟨_, _, rfl, w1.kP, rfl, j_vp (by omega) (by omega), fun x26 ex26 => ?_⟩
          have cl : (a.toNatClampNeg : Int) = a.toInt := j_clamp (by omega)
          have xp : x26 = j_am h m P G R (j_pf a) := by
            rcases j_pf34 a with ⟨y1, y2⟩ | ⟨y1, y2⟩
            · rw [y2, ← st1.am w 3 rfl, ← ex26, show a.toNatClampNeg = 0 by omega]; rfl
            · rw [y2, ← st1.am w 4 rfl, ← ex26, show a.toNatClampNeg = 1 by omega]; rfl
          have p2 : 2 ≤ x26.toInt := by rw [xp]; exact tv.pf a
          have hsum : 0 ≤ (b + c).toInt := by rw [j_addI (by omega) (by omega)]; omega
          conv => whnf
          refine ⟨rfl, _, _, _, _, _, _, c_Mo_latix p2 hsum, ⟨Nat.le_of_ble_eq_true rfl, Nat.le_of_ble_eq_true rfl, by (try dsimp only); omega, by (try dsimp only); omega⟩, fun _ _ z => False.elim z, ?_⟩
          rintro v9 h9 ⟨e9, rfl⟩
          obtain rfl : H1 = h9 := e9.symm
          conv => whnf
          exact ⟨trivial, ⟨by (try dsimp only); omega, by (try dsimp only); omega⟩, j_MQ.ok ⟨ρ, w1⟩ (f1_0.mg w) tH1 ((j_cqp (by omega)).trans (j_cqp (by omega))) (f1_0.am w) (by rw [xp]; unfold a_age; first | rw [if_pos c19] | rw [if_neg c19])⟩
      · have c18 : ¬ ¬ (r17).toInt = 0 := c18
        have q28 : (Int32.ofInt (2)).toInt = 2 := by decide
        conv => whnf
        refine ⟨w1.km, rfl, _, _, _, _, _, _, c_Mo_refusex w1.km, ⟨Nat.le_of_ble_eq_true rfl, Nat.le_of_ble_eq_true rfl, by (try dsimp only); omega, by (try dsimp only); omega⟩, fun _ _ z => False.elim z, ?_⟩
        rintro v9 H30 ⟨rfl, eH30⟩
        have st31 : j_Mf ρ m H1 H30 := by rw [eH30]; exact j_Mf.fi w1.km (by decide)
        have tH30 : j_it H30 m 0 = Int32.ofInt 2 := by rw [eH30]; exact j_upi
        have zG32 := congrArg Int32.toInt (st31.sz w1.lG.1)
        have zR32 := congrArg Int32.toInt (st31.sz w1.lR.1)
        have zQ32 := congrArg Int32.toInt (st31.sz w1.lQ.1)
        have w32 := w1.f st31
        have f32_0 := f1_0.tr st31
        conv => whnf
        exact ⟨trivial, ⟨by (try dsimp only); omega, by (try dsimp only); omega⟩, j_MQ.no w f32_0 tH30 ((j_cqp (by omega)).trans (j_cqn (by omega))) (by decide)⟩
  · have c5 : ¬ ¬ (r4).toInt = 0 := c5
    have q33 : (Int32.ofInt (1)).toInt = 1 := by decide
    conv => whnf
    refine ⟨w1.km, rfl, _, _, _, _, _, _, c_Mo_refusex w1.km, ⟨Nat.le_of_ble_eq_true rfl, Nat.le_of_ble_eq_true rfl, by (try dsimp only); omega, by (try dsimp only); omega⟩, fun _ _ z => False.elim z, ?_⟩
    rintro v9 H35 ⟨rfl, eH35⟩
    have st36 : j_Mf ρ m H1 H35 := by rw [eH35]; exact j_Mf.fi w1.km (by decide)
    have tH35 : j_it H35 m 0 = Int32.ofInt 1 := by rw [eH35]; exact j_upi
    have zG37 := congrArg Int32.toInt (st36.sz w1.lG.1)
    have zR37 := congrArg Int32.toInt (st36.sz w1.lR.1)
    have zQ37 := congrArg Int32.toInt (st36.sz w1.lQ.1)
    have w37 := w1.f st36
    have f37_0 := f1_0.tr st36
    conv => whnf
    exact ⟨trivial, ⟨by (try dsimp only); omega, by (try dsimp only); omega⟩, j_MQ.no w f37_0 tH35 (j_cqn (by omega)) (by decide)⟩
