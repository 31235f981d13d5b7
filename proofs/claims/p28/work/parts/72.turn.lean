/-! the law's turns: object and model side by side -/
/-- further values: the years, the beds, the years of runs -/
def z_B1 (z : j_Z) : Prop := (0 ≤ (z.1 6).toInt ∧ (z.1 6).toInt ≤ 3000) ∧ (∀ k, z_lt z 0 k → 0 ≤ (z.2.2.1 k 0).toInt ∧ (z.2.2.1 k 0).toInt ≤ 5) ∧ ∀ k, z_lt z 1 k → 0 ≤ (z.2.2.2.1 k 5).toInt ∧ (z.2.2.2.1 k 5).toInt ≤ 3000
theorem z_B1.eq {A B : j_Z} (v : z_B1 A) (e : z_eq B A) : z_B1 B := by
  obtain ⟨v1, v2, v3⟩ := v
  refine ⟨by rw [e.1 6 (by decide)]; exact v1, fun k hk => ?_, fun k hk => ?_⟩
  · rw [e.2.2.1 k 0 hk (by decide)]
    exact v2 k (e.lt (by decide) hk)
  · rw [e.2.2.2.1 k 5 hk (by decide)]
    exact v3 k (e.lt (by decide) hk)
theorem z_B10 : z_B1 z_s0 := ⟨⟨by decide, by decide⟩, fun k hk => by
  have hk : (k : Int) < (j_s0 0).toInt := hk
  have : ((j_s0 0).toInt) = 0 := by decide
  omega, fun k hk => by
  have hk : (k : Int) < (j_s0 1).toInt := hk
  have : ((j_s0 1).toInt) = 0 := by decide
  omega⟩
/-- mothers, daughters and what is gone are all motes that ever were -/
def z_U (z : j_Z) : Prop := ∀ k i, z_lt z 0 k → i < 2 → z.2.1 k i 0 + z.2.1 k i 1 + z.2.1 k i 2 = z.2.1 k i 3
theorem z_U.eq {A B : j_Z} (v : z_U A) (e : z_eq B A) : z_U B := fun k i hk hi => by
  rw [e.2.1 k i 0 hk hi (by decide), e.2.1 k i 1 hk hi (by decide), e.2.1 k i 2 hk hi (by decide), e.2.1 k i 3 hk hi (by decide)]
  exact v k i (e.lt (by decide) hk) hi
theorem z_U0 : z_U z_s0 := fun k i hk _ => by
  have hk : (k : Int) < (j_s0 0).toInt := hk
  have : ((j_s0 0).toInt) = 0 := by decide
  omega
def z_B (z : j_Z) : Prop := z_B1 z ∧ z_U z
theorem z_B.eq {A B : j_Z} (v : z_B A) (e : z_eq B A) : z_B B := ⟨v.1.eq e, v.2.eq e⟩
theorem z_B0 : z_B z_s0 := ⟨z_B10, z_U0⟩
section LW
variable {L sc x m out P G R Q : Nat} {h h1 h2 : j_H}
end LW
theorem j_cqz {p : Prop} {x y : Int} (hy : y ≠ 0) (h : j_cq p x y = 0) : p ∧ x = 0 := by
  by_cases hp : p
  · exact ⟨hp, (j_cqp hp).symm.trans h⟩
  · exact absurd ((j_cqn hp).symm.trans h) hy
theorem j_ltc {A : j_Z} {i : Nat} {a : Int32} (h0 : 0 ≤ a.toInt) (h1 : a.toInt < (A.1 i).toInt) : z_lt A i a.toNatClampNeg := by
  unfold z_lt
  rw [j_clamp h0]; exact h1
theorem q_pace_z {a b : Int32} (h : q_pace a b = 0) : 2 ≤ b.toInt ∧ b.toInt ≤ 200 := by
  by_cases c1 : a.toInt = 0 ∨ a.toInt = 1
  · by_cases c2 : 2 ≤ b.toInt ∧ b.toInt ≤ 200
    · exact c2
    · have := ((j_cqp c1).trans (j_cqn c2)).symm.trans h
      exact absurd this (by decide)
  · have := (j_cqn c1).symm.trans h
    exact absurd this (by decide)
theorem q_slip_z {a : Int32} (h : q_slip a = 0) : 0 ≤ a.toInt ∧ a.toInt ≤ 9 := (j_cqz (by decide) h).1
section CV
variable {A B : j_Z} {a b c d : Int32}
theorem cV_grain (v : z_V A) (h : q_grain A.1 a b c = 0) : z_V (n_grainz A a b c) := by
  obtain ⟨h1, h2⟩ := j_cqz (by decide) h
  have h3 := (j_cqz (by decide) h2).1
  exact v.grain ⟨h1.1.1, h1.1.2⟩ ⟨h1.2.1.1, h1.2.1.2⟩ (by omega)
theorem cV_run (v : z_V A) (h : q_run A.1 a b c d = 0) : z_V (n_runF A a b c d) := by
  obtain ⟨h1, h2⟩ := j_cqz (by decide) h
  obtain ⟨h3, h4⟩ := j_cqz (by decide) h2
  have h5 := (j_cqz (by decide) h4).1
  have v2 := v.2.1
  unfold j_oke at h3
  unfold j_okr at h1
  have en : (-(A.1 5)).toInt = -(A.1 5).toInt := by
    rw [Int32.toInt_neg, Int.bmod_def]
    omega
  exact v.run (j_ltc h1.1.1 h1.1.2) (by omega) (by omega) (by omega) (by omega)
theorem cV_touch {t0 : Nat} (ht : t0 < 2) (v : z_V A) (h : q_touch A a b = 0) : z_V (n_touch t0 A a b) := by
  obtain ⟨h1, h2⟩ := j_cqz (by decide) h
  have h3 := (j_cqz (by decide) h2).1
  exact v.touch ht h3.1 h3.2
theorem cB1_grain (v : z_B1 A) (h : q_grain A.1 a b c = 0) : z_B1 (n_grainz A a b c) := by
  obtain ⟨h1, h2⟩ := j_cqz (by decide) h
  have h3 := (j_cqz (by decide) h2).1
  refine ⟨v.1, fun k hk => ?_, fun k hk => v.2.2 k (z_u1_lt (R' := A.2) (by decide) hk)⟩
  have hk : (k : Int) < (A.1 0 + Int32.ofInt 1).toInt := hk
  show 0 ≤ (if k = (A.1 0).toNatClampNeg then c else A.2.2.1 k 0).toInt ∧ (if k = (A.1 0).toNatClampNeg then c else A.2.2.1 k 0).toInt ≤ 5
  by_cases e : k = (A.1 0).toNatClampNeg
  · rw [if_pos e]; exact h1.2.2
  · rw [if_neg e]
    rw [j_inc1 (by omega)] at hk
    refine v.2.1 k ?_
    unfold z_lt
    by_cases q : 0 ≤ (A.1 0).toInt
    · have := j_clamp q; omega
    · omega
theorem cB1_run (v : z_B1 A) (h : q_run A.1 a b c d = 0) : z_B1 (n_runF A a b c d) := by
  obtain ⟨h1, h2⟩ := j_cqz (by decide) h
  obtain ⟨h3, h4⟩ := j_cqz (by decide) h2
  have h5 := (j_cqz (by decide) h4).1
  refine ⟨v.1, fun k hk => v.2.1 k (z_u1_lt (R' := A.2) (by decide) hk), fun k hk => ?_⟩
  have hk : (k : Int) < (A.1 1 + Int32.ofInt 1).toInt := hk
  by_cases e : k = (A.1 1).toNatClampNeg
  · have f : (n_runF A a b c d).2.2.2.1 k 5 = A.1 6 := if_pos e
    rw [f]; exact v.1
  · have f : (n_runF A a b c d).2.2.2.1 k 5 = A.2.2.2.1 k 5 := if_neg e
    rw [f]
    rw [j_inc1 (by omega)] at hk
    refine v.2.2 k ?_
    unfold z_lt
    by_cases q : 0 ≤ (A.1 1).toInt
    · have := j_clamp q; omega
    · omega
theorem cB1_pass (v : z_B1 A) (h : q_pass A.1 a = 0) : z_B1 (n_years A a) := by
  obtain ⟨h1, h2⟩ := j_cqz (by decide) h
  have h3 := (j_cqz (by decide) h2).1
  have v1 := v.1
  have e : (A.1 6 + a).toInt = (A.1 6).toInt + a.toInt := j_addI (by omega) (by omega)
  refine ⟨?_, fun k hk => v.2.1 k (z_u1_lt (R' := A.2) (by decide) hk), fun k hk => v.2.2 k (z_u1_lt (R' := A.2) (by decide) hk)⟩
  show 0 ≤ (A.1 6 + a).toInt ∧ (A.1 6 + a).toInt ≤ 3000
  omega
theorem cB1_touch {t0 : Nat} (v : z_B1 A) : z_B1 (n_touch t0 A a b) := by
  refine ⟨v.1, fun k hk => ?_, v.2.2⟩
  show 0 ≤ (if k = a.toNatClampNeg then A.2.2.1 k 0 else A.2.2.1 k 0).toInt ∧ (if k = a.toNatClampNeg then A.2.2.1 k 0 else A.2.2.1 k 0).toInt ≤ 5
  have hk : z_lt A 0 k := hk
  by_cases e : k = a.toNatClampNeg
  · rw [if_pos e]; exact v.2.1 k hk
  · rw [if_neg e]; exact v.2.1 k hk
theorem cB1_pace (v : z_B1 A) : z_B1 (n_pacez A a b) := by
  have up : ∀ i k, i < 3 → z_lt (n_pacez A a b) i k → z_lt A i k := fun i k hi h => z_u1_lt (R' := A.2) (by rcases j_pf34' a with ⟨_, q⟩ | ⟨_, q⟩ <;> rw [q] <;> omega) h
  refine ⟨?_, fun k hk => v.2.1 k (up 0 k (by decide) hk), fun k hk => v.2.2 k (up 1 k (by decide) hk)⟩
  show 0 ≤ (j_u1 A.1 (j_pf a) b 6).toInt ∧ (j_u1 A.1 (j_pf a) b 6).toInt ≤ 3000
  rcases j_pf34' a with ⟨_, q⟩ | ⟨_, q⟩
  · rw [q]; exact v.1
  · rw [q]; exact v.1
theorem cB1_slip (v : z_B1 A) : z_B1 (n_slipz A a) := ⟨v.1, fun k hk => v.2.1 k (z_u1_lt (R' := A.2) (by decide) hk), fun k hk => v.2.2 k (z_u1_lt (R' := A.2) (by decide) hk)⟩
theorem cB1_withdraw (v : z_B1 A) : z_B1 (n_withdraw A a) := by
  refine ⟨v.1, v.2.1, fun k hk => ?_⟩
  show 0 ≤ (if k = a.toNatClampNeg then A.2.2.2.1 k 5 else A.2.2.2.1 k 5).toInt ∧ (if k = a.toNatClampNeg then A.2.2.2.1 k 5 else A.2.2.2.1 k 5).toInt ≤ 3000
  have hk : z_lt A 1 k := hk
  by_cases e : k = a.toNatClampNeg
  · rw [if_pos e]; exact v.2.2 k hk
  · rw [if_neg e]; exact v.2.2 k hk
theorem cB1_swap (v : z_B1 A) : z_B1 (n_swap A a b) := ⟨v.1, v.2.1, fun k hk => v.2.2 k hk⟩
theorem cB1_print (v : z_B1 A) : z_B1 (n_print A a b) := ⟨v.1, fun k hk => v.2.1 k (z_u1_lt (R' := A.2) (by decide) hk), fun k hk => v.2.2 k (z_u1_lt (R' := A.2) (by decide) hk)⟩
theorem z_rg {l d m g : Int32} : l + (d + (m - l)) + g = m + d + g := by
  have e : l + (d + (m - l)) = m + d := by
    have t : d + (m + -l) = (m + d) + -l := by rw [← Int32.add_assoc, Int32.add_comm d m]
    rw [Int32.sub_eq_add_neg, t, Int32.add_comm l, Int32.add_assoc (m + d), Int32.add_left_neg, Int32.add_zero]
  rw [e]
theorem z_rt0 {k d m g : Int32} : (m - k) + d + (g + k) = m + d + g := by
  rw [Int32.sub_eq_add_neg, Int32.add_assoc m, Int32.add_comm (-k) d, ← Int32.add_assoc m, Int32.add_assoc (m + d), Int32.add_comm g k, ← Int32.add_assoc (-k), Int32.add_left_neg, Int32.zero_add]
theorem z_rt1 {k d m g : Int32} : m + (d - k) + (g + k) = m + d + g := by
  rw [Int32.sub_eq_add_neg, ← Int32.add_assoc m, Int32.add_assoc (m + d), Int32.add_comm g k, ← Int32.add_assoc (-k), Int32.add_left_neg, Int32.zero_add]
theorem cU_grain (v : z_U A) (h : q_grain A.1 a b c = 0) : z_U (n_grainz A a b c) := by
  obtain ⟨h1, h2⟩ := j_cqz (by decide) h
  have h3 := (j_cqz (by decide) h2).1
  intro k i hk hi
  have hk : (k : Int) < (A.1 0 + Int32.ofInt 1).toInt := hk
  by_cases e : k = (A.1 0).toNatClampNeg
  · have f : ∀ t, (n_grainz A a b c).2.1 k i t = (if t = 0 ∨ t = 3 then (if i = 0 then a else b) else Int32.ofInt 0) := fun t => if_pos e
    rw [f, f, f, f, if_pos (show (0 : Nat) = 0 ∨ (0 : Nat) = 3 from Or.inl rfl), if_neg (show ¬ ((1 : Nat) = 0 ∨ (1 : Nat) = 3) by decide), if_neg (show ¬ ((2 : Nat) = 0 ∨ (2 : Nat) = 3) by decide), if_pos (show (3 : Nat) = 0 ∨ (3 : Nat) = 3 from Or.inr rfl)]
    exact (Int32.add_zero _).trans (Int32.add_zero _)
  · have f : ∀ t, (n_grainz A a b c).2.1 k i t = A.2.1 k i t := fun t => if_neg e
    rw [f, f, f, f]
    rw [j_inc1 (by omega)] at hk
    refine v k i ?_ hi
    unfold z_lt
    by_cases q : 0 ≤ (A.1 0).toInt
    · have := j_clamp q; omega
    · omega
theorem cU_pass (v : z_U A) : z_U (n_years A a) := by
  intro k i hk hi
  have hk : z_lt A 0 k := z_u1_lt (R' := A.2) (by decide) hk
  show z_lf A a k i + (A.2.1 k i 1 + (A.2.1 k i 0 - z_lf A a k i)) + A.2.1 k i 2 = A.2.1 k i 3
  rw [z_rg]
  exact v k i hk hi
theorem cU_touch {t0 : Nat} (ht : t0 < 2) (v : z_U A) : z_U (n_touch t0 A a b) := by
  intro k i hk hi
  have hk : z_lt A 0 k := hk
  by_cases e : k = a.toNatClampNeg
  · have f : ∀ t, (n_touch t0 A a b).2.1 k i t = (if t = t0 then A.2.1 k i t0 - z_take (A.2.1 k i t0) b else if t = 2 then A.2.1 k i 2 + z_take (A.2.1 k i t0) b else A.2.1 k i t) := fun t => if_pos e
    rw [f, f, f, f]
    match t0, ht with
    | 0, _ =>
      rw [if_pos (show (0 : Nat) = 0 from rfl), if_neg (show ¬ (1 : Nat) = 0 by decide), if_neg (show ¬ (1 : Nat) = 2 by decide), if_neg (show ¬ (2 : Nat) = 0 by decide), if_pos (show (2 : Nat) = 2 from rfl), if_neg (show ¬ (3 : Nat) = 0 by decide), if_neg (show ¬ (3 : Nat) = 2 by decide), z_rt0]
      exact v k i hk hi
    | 1, _ =>
      rw [if_neg (show ¬ (0 : Nat) = 1 by decide), if_neg (show ¬ (0 : Nat) = 2 by decide), if_pos (show (1 : Nat) = 1 from rfl), if_neg (show ¬ (2 : Nat) = 1 by decide), if_pos (show (2 : Nat) = 2 from rfl), if_neg (show ¬ (3 : Nat) = 1 by decide), if_neg (show ¬ (3 : Nat) = 2 by decide), z_rt1]
      exact v k i hk hi
    | n + 2, ht => omega
  · have f : ∀ t, (n_touch t0 A a b).2.1 k i t = A.2.1 k i t := fun t => if_neg e
    rw [f, f, f, f]
    exact v k i hk hi
theorem cB_grain (v : z_B A) (h : q_grain A.1 a b c = 0) : z_B (n_grainz A a b c) := ⟨cB1_grain v.1 h, cU_grain v.2 h⟩
theorem cB_run (v : z_B A) (h : q_run A.1 a b c d = 0) : z_B (n_runF A a b c d) := ⟨cB1_run v.1 h, fun k i hk hi => v.2 k i (z_u1_lt (R' := A.2) (by decide) hk) hi⟩
theorem cB_pass (v : z_B A) (h : q_pass A.1 a = 0) : z_B (n_years A a) := ⟨cB1_pass v.1 h, cU_pass v.2⟩
theorem cB_touch {t0 : Nat} (ht : t0 < 2) (v : z_B A) : z_B (n_touch t0 A a b) := ⟨cB1_touch v.1, cU_touch ht v.2⟩
theorem cB_pace (v : z_B A) : z_B (n_pacez A a b) := ⟨cB1_pace v.1, fun k i hk hi => v.2 k i (z_u1_lt (R' := A.2) (by rcases j_pf34' a with ⟨_, q⟩ | ⟨_, q⟩ <;> rw [q] <;> omega) hk) hi⟩
theorem cB_slip (v : z_B A) : z_B (n_slipz A a) := ⟨cB1_slip v.1, fun k i hk hi => v.2 k i (z_u1_lt (R' := A.2) (by decide) hk) hi⟩
theorem cB_withdraw (v : z_B A) : z_B (n_withdraw A a) := ⟨cB1_withdraw v.1, v.2⟩
theorem cB_swap (v : z_B A) : z_B (n_swap A a b) := ⟨cB1_swap v.1, v.2⟩
theorem cB_print (v : z_B A) : z_B (n_print A a b) := ⟨cB1_print v.1, fun k i hk hi => v.2 k i (z_u1_lt (R' := A.2) (by decide) hk) hi⟩
end CV
