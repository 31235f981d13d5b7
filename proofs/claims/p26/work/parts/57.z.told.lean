/-! what the class answers to grain, run, pass, pace, slip, by the law's own calls -/
noncomputable def q_grain (σ : Nat → Int32) (a b c : Int32) : Int := j_cq (j_okg a b c) (j_cq ((σ 0).toInt < 8) 0 2) 1
noncomputable def q_run (σ : Nat → Int32) (a b c d : Int32) : Int := j_cq (j_okr σ a b) (j_cq (j_oke σ c d) (j_cq ((σ 1).toInt < 20) 0 3) 2) 1
noncomputable def q_pass (σ : Nat → Int32) (a : Int32) : Int := j_cq (1 ≤ a.toInt ∧ a.toInt ≤ 300) (j_cq ((σ 6 + a).toInt ≤ 3000) 0 2) 1
noncomputable def q_pace (a b : Int32) : Int := j_cq (a.toInt = 0 ∨ a.toInt = 1) (j_cq (2 ≤ b.toInt ∧ b.toInt ≤ 200) 0 2) 1
noncomputable def q_slip (a : Int32) : Int := j_cq (0 ≤ a.toInt ∧ a.toInt ≤ 9) 0 1
