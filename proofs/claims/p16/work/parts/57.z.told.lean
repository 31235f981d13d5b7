/-! what the class answers to grain, run, pass, pace, slip, by the law's own calls -/
noncomputable def q_grain (σ : Nat → Int32) (a b c : Int32) : Int := j_cq (j_okg a b c) (j_cq ((σ 0).toInt < 8) 0 2) 1
noncomputable def q_run (σ : Nat → Int32) (a b c d : Int32) : Int := j_cq (j_okr σ a b) (j_cq (j_oke σ c d) (j_cq ((σ 1).toInt < 20) 0 3) 2) 1
noncomputable def q_pass (σ : Nat → Int32) (a : Int32) : Int := j_cq (1 ≤ a.toInt ∧ a.toInt ≤ 300) (j_cq ((σ 6 + a).toInt ≤ 3000) 0 2) 1
noncomputable def q_pace (a b : Int32) : Int := j_cq (a.toInt = 0 ∨ a.toInt = 1) (j_cq (2 ≤ b.toInt ∧ b.toInt ≤ 200) 0 2) 1
noncomputable def q_slip (a : Int32) : Int := j_cq (0 ≤ a.toInt ∧ a.toInt ≤ 9) 0 1
def n_grain (σ : Nat → Int32) : Nat → Int32 := j_u1 σ 0 (σ 0 + Int32.ofInt 1)
def n_run (σ : Nat → Int32) : Nat → Int32 := j_u1 σ 1 (σ 1 + Int32.ofInt 1)
def n_pass (σ : Nat → Int32) (a : Int32) : Nat → Int32 := j_u1 σ 6 (σ 6 + a)
set_option maxHeartbeats 4000000 in
set_option maxRecDepth 20000 in
theorem c_Lw_grainq {h : j_H} {x out : Nat} {a : Int32} {b : Int32} {c : Int32} (hW : j_WF h x) (ko : j_kd h out = some (.inl 9)) : j_Ct 233 8 181 4 58 [j_r (some x), j_i a, j_i b, j_i c, j_r (some out)] h (j_LQ x out h (q_grain (j_ax h x) a b c) (j_ax h x 0) (n_grain (j_ax h x))) j_no := by
  refine j_intro km_233 (Nat.le_of_ble_eq_true rfl) ?_
  intro J hJ hF
  refine hJ [] 400 _ _ _ _ _ _ ?_
  conv => whnf
  refine ⟨hW.1, rfl, _, _, _, _, _, _, c_G_grainx hW, ⟨Nat.le_of_ble_eq_true rfl, Nat.le_of_ble_eq_true rfl, Nat.le_of_ble_eq_true rfl, Nat.le_of_ble_eq_true rfl⟩, ?_, ?_⟩
  · rintro k9 h9 ⟨hk, e9⟩
    obtain rfl : h = h9 := e9.symm
    rcases hk with ⟨rfl, c1⟩ | ⟨rfl, c1, c2⟩
    · conv => whnf
      intro a9
      conv => whnf
      exact ⟨trivial, ⟨Nat.le_of_ble_eq_true rfl, Nat.le_of_ble_eq_true rfl⟩, j_LQ.no hW (j_cqn c1) (by decide)⟩
    · conv => whnf
      intro a9
      conv => whnf
      exact ⟨trivial, ⟨Nat.le_of_ble_eq_true rfl, Nat.le_of_ble_eq_true rfl⟩, j_LQ.no hW ((j_cqp c1).trans (j_cqn c2)) (by decide)⟩
  · rintro v9 h9 ⟨⟨c1, c2⟩, rfl, fs, t⟩
    conv => whnf
    refine ⟨_, rfl, ((fs.2.1.2 out (j_nn ko)).1).trans ko, ?_⟩
    conv => whnf
    exact ⟨trivial, ⟨Nat.le_of_ble_eq_true rfl, Nat.le_of_ble_eq_true rfl⟩, j_LQ.ok ko ((j_cqp c1).trans (j_cqp c2)) fs t⟩
set_option maxHeartbeats 4000000 in
set_option maxRecDepth 20000 in
theorem c_Lw_runq {h : j_H} {x out : Nat} {a : Int32} {b : Int32} {c : Int32} {d : Int32} (hW : j_WF h x) (ko : j_kd h out = some (.inl 9)) : j_Ct 244 8 187 2 51 [j_r (some x), j_i a, j_i b, j_i c, j_i d, j_r (some out)] h (j_LQ x out h (q_run (j_ax h x) a b c d) (j_ax h x 1) (n_run (j_ax h x))) j_no := by
  refine j_intro km_244 (Nat.le_of_ble_eq_true rfl) ?_
  intro J hJ hF
  refine hJ [] 400 _ _ _ _ _ _ ?_
  conv => whnf
  refine ⟨hW.1, rfl, _, _, _, _, _, _, c_G_runx hW, ⟨Nat.le_of_ble_eq_true rfl, Nat.le_of_ble_eq_true rfl, Nat.le_of_ble_eq_true rfl, Nat.le_of_ble_eq_true rfl⟩, ?_, ?_⟩
  · rintro k9 h9 ⟨hk, e9⟩
    obtain rfl : h = h9 := e9.symm
    rcases hk with ⟨rfl, c1⟩ | ⟨rfl, c1, c2⟩ | ⟨rfl, c1, c2, c3⟩
    · conv => whnf
      intro a9
      conv => whnf
      exact ⟨trivial, ⟨Nat.le_of_ble_eq_true rfl, Nat.le_of_ble_eq_true rfl⟩, j_LQ.no hW (j_cqn c1) (by decide)⟩
    · conv => whnf
      intro a9
      conv => whnf
      exact ⟨trivial, ⟨Nat.le_of_ble_eq_true rfl, Nat.le_of_ble_eq_true rfl⟩, j_LQ.no hW ((j_cqp c1).trans (j_cqn c2)) (by decide)⟩
    · conv => whnf
      intro a9
      conv => whnf
      exact ⟨trivial, ⟨Nat.le_of_ble_eq_true rfl, Nat.le_of_ble_eq_true rfl⟩, j_LQ.no hW ((j_cqp c1).trans ((j_cqp c2).trans (j_cqn c3))) (by decide)⟩
  · rintro v9 h9 ⟨⟨c1, c2, c3⟩, rfl, fs, t⟩
    conv => whnf
    refine ⟨_, rfl, ((fs.2.1.2 out (j_nn ko)).1).trans ko, ?_⟩
    conv => whnf
    exact ⟨trivial, ⟨Nat.le_of_ble_eq_true rfl, Nat.le_of_ble_eq_true rfl⟩, j_LQ.ok ko ((j_cqp c1).trans ((j_cqp c2).trans (j_cqp c3))) fs t⟩
set_option maxHeartbeats 4000000 in
set_option maxRecDepth 20000 in
theorem c_Lw_passq {h : j_H} {x out : Nat} {a : Int32} (hW : j_WF h x) (ko : j_kd h out = some (.inl 9)) : j_Ct 242 7 113 1 6 [j_r (some x), j_i a, j_r (some out)] h (j_LQ x out h (q_pass (j_ax h x) a) (j_ax h x 6 + a) (n_pass (j_ax h x) a)) j_no := by
  refine j_intro km_242 (Nat.le_of_ble_eq_true rfl) ?_
  intro J hJ hF
  refine hJ [] 400 _ _ _ _ _ _ ?_
  conv => whnf
  refine ⟨hW.1, rfl, _, _, _, _, _, _, c_G_passx hW, ⟨Nat.le_of_ble_eq_true rfl, Nat.le_of_ble_eq_true rfl, Nat.le_of_ble_eq_true rfl, Nat.le_of_ble_eq_true rfl⟩, ?_, ?_⟩
  · rintro k9 h9 ⟨hk, e9⟩
    obtain rfl : h = h9 := e9.symm
    rcases hk with ⟨rfl, c1⟩ | ⟨rfl, c1, c2⟩
    · conv => whnf
      intro a9
      conv => whnf
      exact ⟨trivial, ⟨Nat.le_of_ble_eq_true rfl, Nat.le_of_ble_eq_true rfl⟩, j_LQ.no hW (j_cqn c1) (by decide)⟩
    · conv => whnf
      intro a9
      conv => whnf
      exact ⟨trivial, ⟨Nat.le_of_ble_eq_true rfl, Nat.le_of_ble_eq_true rfl⟩, j_LQ.no hW ((j_cqp c1).trans (j_cqn c2)) (by decide)⟩
  · rintro v9 h9 ⟨c1, c2, rfl, it', e9, s9⟩
    have fr := j_Fr.sc hW s9 j_sm_ok j_sm8
    obtain ⟨fx, ax⟩ := j_Fs.x (k := 6) (a := j_it h x 6 + a) fr.1 (by decide)
    have fs : j_Fs x h h9 := by rw [e9]; exact fr.fs.tr fx
    have t : j_At h9 x (n_pass (j_ax h x) a) := fun j hj => by
      rw [e9, ax j hj]
      unfold n_pass j_u1
      by_cases z : j = 6
      · rw [if_pos z, if_pos z]; rfl
      · rw [if_neg z, if_neg z]; exact fr.2.2.2 j hj
    clear e9
    conv => whnf
    refine ⟨_, rfl, ((fs.2.1.2 out (j_nn ko)).1).trans ko, ?_⟩
    conv => whnf
    exact ⟨trivial, ⟨Nat.le_of_ble_eq_true rfl, Nat.le_of_ble_eq_true rfl⟩, j_LQ.ok ko ((j_cqp c1).trans (j_cqp c2)) fs t⟩
set_option maxHeartbeats 4000000 in
set_option maxRecDepth 20000 in
theorem c_Lw_paceq {h : j_H} {x out : Nat} {a b : Int32} (hW : j_WF h x) (ko : j_kd h out = some (.inl 9)) : j_Ct 241 7 115 1 6 [j_r (some x), j_i a, j_i b, j_r (some out)] h (j_LQ x out h (q_pace a b) (j_ax h x (j_pf a)) (j_u1 (j_ax h x) (j_pf a) b)) j_no := by
  refine (c_Lw_pacex hW ko).to (fun v h' g => ?_) (fun _ _ z => z)
  have hp : j_ax h x (j_pf a) = j_it h x (j_pf a) ∧ 3 ≤ j_pf a := by
    unfold j_pf
    by_cases z : a.toInt = 0
    · rw [if_pos z]; exact ⟨rfl, by decide⟩
    · rw [if_neg z]; exact ⟨rfl, by decide⟩
  rcases g with ⟨⟨c1, c2⟩, rfl, it', e, s⟩ | ⟨rfl, c1, e⟩ | ⟨rfl, c1, c2, e⟩
  · obtain ⟨fx, ax⟩ := j_Fs.x (k := j_pf a) (a := b) hW hp.2
    have fr := j_Fr.sc fx.1 s j_sm_ok j_sm8
    rw [e, hp.1]
    exact j_LQ.ok ko ((j_cqp c1).trans (j_cqp c2)) (fx.tr fr.fs) (fun j hj => (fr.2.2.2 j hj).trans (ax j hj))
  · rw [e]; exact j_LQ.no hW (j_cqn c1) (by decide)
  · rw [e]; exact j_LQ.no hW ((j_cqp c1).trans (j_cqn c2)) (by decide)
theorem c_Lw_slipq {h : j_H} {x out : Nat} {a : Int32} (hW : j_WF h x) (ko : j_kd h out = some (.inl 9)) : j_Ct 245 7 112 1 6 [j_r (some x), j_i a, j_r (some out)] h (j_LQ x out h (q_slip a) (j_ax h x 5) (j_u1 (j_ax h x) 5 a)) j_no := by
  refine (c_Lw_slip hW.1 ko).to (fun v h' g => ?_) (fun _ _ z => z)
  rcases g with ⟨c1, rfl, e⟩ | ⟨c1, rfl, e⟩
  · obtain ⟨fx, ax⟩ := j_Fs.x (k := 5) (a := a) hW (by decide)
    rw [e]
    exact j_LQ.ok ko (j_cqp c1) fx ax
  · rw [e]; exact j_LQ.no hW (j_cqn c1) (by decide)
