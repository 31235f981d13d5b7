set_option maxHeartbeats 4000000 in
set_option maxRecDepth 20000 in
theorem c_Lw_age {h : j_H} {x out : Nat} {a : Int32} {b : Int32} {c : Int32} {d : Int32} (hW : j_WF h x) (ko : j_kd h out = some (.inl 9)) : j_Ct 231 7 115 1 6 [j_r (some x), j_i a, j_i b, j_i c, j_i d, j_r (some out)] h (fun v h' => (∃ r, v = some (j_i r)) ∧ j_Fo x out h h') j_no := by
  refine j_intro km_231 (Nat.le_of_ble_eq_true rfl) ?_
  intro J hJ hF
  refine hJ [] 400 _ _ _ _ _ _ ?_
  conv => whnf
  refine ⟨hW.1, rfl, _, _, _, _, _, _, c_G_age (h := h) hW j_Sc.rf, ⟨Nat.le_of_ble_eq_true rfl, Nat.le_of_ble_eq_true rfl, Nat.le_of_ble_eq_true rfl, Nat.le_of_ble_eq_true rfl⟩, ?_, ?_⟩
  · rintro k9 h9 ⟨hk, it', rfl, s'⟩
    have f := j_Fr.sc hW s' j_sf_ok j_sf8
    simp only [List.mem_cons, List.not_mem_nil, or_false] at hk
    rcases hk with rfl | rfl
    all_goals
      conv => whnf
      intro a9
      conv => whnf
      exact ⟨trivial, ⟨Nat.le_of_ble_eq_true rfl, Nat.le_of_ble_eq_true rfl⟩, ⟨_, rfl⟩, f.fo⟩
  · rintro v9 h9 ⟨it', rfl, s', r, rfl⟩
    have f := j_Fr.sc hW s' j_sf_ok j_sf8
    conv => whnf
    refine ⟨_, rfl, ((f.2.1.2 out (j_nn ko)).1).trans ko, ?_⟩
    conv => whnf
    exact ⟨trivial, ⟨Nat.le_of_ble_eq_true rfl, Nat.le_of_ble_eq_true rfl⟩, ⟨_, rfl⟩, f.out ko⟩
set_option maxHeartbeats 4000000 in
set_option maxRecDepth 20000 in
theorem c_Lw_changed {h : j_H} {x out : Nat} {a : Int32} {b : Int32} (hW : j_WF h x) (ko : j_kd h out = some (.inl 9)) : j_Ct 232 7 115 1 6 [j_r (some x), j_i a, j_i b, j_r (some out)] h (fun v h' => (∃ r, v = some (j_i r)) ∧ j_Fo x out h h') j_no := by
  refine j_intro km_232 (Nat.le_of_ble_eq_true rfl) ?_
  intro J hJ hF
  refine hJ [] 400 _ _ _ _ _ _ ?_
  conv => whnf
  refine ⟨hW.1, rfl, _, _, _, _, _, _, c_G_changed (h := h) hW j_Sc.rf, ⟨Nat.le_of_ble_eq_true rfl, Nat.le_of_ble_eq_true rfl, Nat.le_of_ble_eq_true rfl, Nat.le_of_ble_eq_true rfl⟩, ?_, ?_⟩
  · rintro k9 h9 ⟨hk, it', rfl, s'⟩
    have f := j_Fr.sc hW s' j_sf_ok j_sf8
    simp only [List.mem_cons, List.not_mem_nil, or_false] at hk
    rcases hk with rfl | rfl
    all_goals
      conv => whnf
      intro a9
      conv => whnf
      exact ⟨trivial, ⟨Nat.le_of_ble_eq_true rfl, Nat.le_of_ble_eq_true rfl⟩, ⟨_, rfl⟩, f.fo⟩
  · rintro v9 h9 ⟨it', rfl, s', r, rfl⟩
    have f := j_Fr.sc hW s' j_sf_ok j_sf8
    conv => whnf
    refine ⟨_, rfl, ((f.2.1.2 out (j_nn ko)).1).trans ko, ?_⟩
    conv => whnf
    exact ⟨trivial, ⟨Nat.le_of_ble_eq_true rfl, Nat.le_of_ble_eq_true rfl⟩, ⟨_, rfl⟩, f.out ko⟩
set_option maxHeartbeats 4000000 in
set_option maxRecDepth 20000 in
theorem c_Lw_heat {h : j_H} {x out : Nat} {a : Int32} {b : Int32} (hW : j_WF h x) (ko : j_kd h out = some (.inl 9)) : j_Ct 234 7 113 1 6 [j_r (some x), j_i a, j_i b, j_r (some out)] h (fun v h' => (∃ r, v = some (j_i r)) ∧ j_Fo x out h h') j_no := by
  refine j_intro km_234 (Nat.le_of_ble_eq_true rfl) ?_
  intro J hJ hF
  refine hJ [] 400 _ _ _ _ _ _ ?_
  conv => whnf
  refine ⟨hW.1, rfl, _, _, _, _, _, _, c_G_heat (h := h) hW j_Sc.rf, ⟨Nat.le_of_ble_eq_true rfl, Nat.le_of_ble_eq_true rfl, Nat.le_of_ble_eq_true rfl, Nat.le_of_ble_eq_true rfl⟩, ?_, ?_⟩
  · rintro k9 h9 ⟨hk, it', rfl, s'⟩
    have f := j_Fr.sc hW s' j_sm_ok j_sm8
    simp only [List.mem_cons, List.not_mem_nil, or_false] at hk
    rcases hk with rfl | rfl
    all_goals
      conv => whnf
      intro a9
      conv => whnf
      exact ⟨trivial, ⟨Nat.le_of_ble_eq_true rfl, Nat.le_of_ble_eq_true rfl⟩, ⟨_, rfl⟩, f.fo⟩
  · rintro v9 h9 ⟨it', rfl, s', r, rfl⟩
    have f := j_Fr.sc hW s' j_sm_ok j_sm8
    conv => whnf
    refine ⟨_, rfl, ((f.2.1.2 out (j_nn ko)).1).trans ko, ?_⟩
    conv => whnf
    exact ⟨trivial, ⟨Nat.le_of_ble_eq_true rfl, Nat.le_of_ble_eq_true rfl⟩, ⟨_, rfl⟩, f.out ko⟩
set_option maxHeartbeats 4000000 in
set_option maxRecDepth 20000 in
theorem c_Lw_lab {h : j_H} {x out : Nat} {a : Int32} (hW : j_WF h x) (ko : j_kd h out = some (.inl 9)) : j_Ct 235 8 177 1 6 [j_r (some x), j_i a, j_r (some out)] h (fun v h' => (∃ r, v = some (j_i r)) ∧ j_Fo x out h h') j_no := by
  refine j_intro km_235 (Nat.le_of_ble_eq_true rfl) ?_
  intro J hJ hF
  refine hJ [] 400 _ _ _ _ _ _ ?_
  conv => whnf
  refine ⟨hW.1, rfl, _, _, _, _, _, _, c_G_lab (h := h) hW j_Sc.rf, ⟨Nat.le_of_ble_eq_true rfl, Nat.le_of_ble_eq_true rfl, Nat.le_of_ble_eq_true rfl, Nat.le_of_ble_eq_true rfl⟩, ?_, ?_⟩
  · rintro k9 h9 ⟨hk, it', rfl, s'⟩
    have f := j_Fr.sc hW s' j_sf_ok j_sf8
    simp only [List.mem_cons, List.not_mem_nil, or_false] at hk
    rcases hk with rfl
    all_goals
      conv => whnf
      intro a9
      conv => whnf
      exact ⟨trivial, ⟨Nat.le_of_ble_eq_true rfl, Nat.le_of_ble_eq_true rfl⟩, ⟨_, rfl⟩, f.fo⟩
  · rintro v9 h9 ⟨it', rfl, s', r, rfl⟩
    have f := j_Fr.sc hW s' j_sf_ok j_sf8
    conv => whnf
    refine ⟨_, rfl, ((f.2.1.2 out (j_nn ko)).1).trans ko, ?_⟩
    conv => whnf
    exact ⟨trivial, ⟨Nat.le_of_ble_eq_true rfl, Nat.le_of_ble_eq_true rfl⟩, ⟨_, rfl⟩, f.out ko⟩
set_option maxHeartbeats 4000000 in
set_option maxRecDepth 20000 in
theorem c_Lw_left {h : j_H} {x out : Nat} {a : Int32} {b : Int32} {c : Int32} (hW : j_WF h x) (ko : j_kd h out = some (.inl 9)) : j_Ct 236 7 113 1 6 [j_r (some x), j_i a, j_i b, j_i c, j_r (some out)] h (fun v h' => (∃ r, v = some (j_i r)) ∧ j_Fo x out h h') j_no := by
  refine j_intro km_236 (Nat.le_of_ble_eq_true rfl) ?_
  intro J hJ hF
  refine hJ [] 400 _ _ _ _ _ _ ?_
  conv => whnf
  refine ⟨hW.1, rfl, _, _, _, _, _, _, c_G_left (h := h) hW j_Sc.rf, ⟨Nat.le_of_ble_eq_true rfl, Nat.le_of_ble_eq_true rfl, Nat.le_of_ble_eq_true rfl, Nat.le_of_ble_eq_true rfl⟩, ?_, ?_⟩
  · rintro k9 h9 ⟨hk, it', rfl, s'⟩
    have f := j_Fr.sc hW s' j_sf_ok j_sf8
    simp only [List.mem_cons, List.not_mem_nil, or_false] at hk
    rcases hk with rfl | rfl
    all_goals
      conv => whnf
      intro a9
      conv => whnf
      exact ⟨trivial, ⟨Nat.le_of_ble_eq_true rfl, Nat.le_of_ble_eq_true rfl⟩, ⟨_, rfl⟩, f.fo⟩
  · rintro v9 h9 ⟨it', rfl, s', r, rfl⟩
    have f := j_Fr.sc hW s' j_sf_ok j_sf8
    conv => whnf
    refine ⟨_, rfl, ((f.2.1.2 out (j_nn ko)).1).trans ko, ?_⟩
    conv => whnf
    exact ⟨trivial, ⟨Nat.le_of_ble_eq_true rfl, Nat.le_of_ble_eq_true rfl⟩, ⟨_, rfl⟩, f.out ko⟩
set_option maxHeartbeats 4000000 in
set_option maxRecDepth 20000 in
theorem c_Lw_narrowed {h : j_H} {x out : Nat} {a : Int32} {b : Int32} (hW : j_WF h x) (ko : j_kd h out = some (.inl 9)) : j_Ct 237 7 137 1 6 [j_r (some x), j_i a, j_i b, j_r (some out)] h (fun v h' => (∃ r, v = some (j_i r)) ∧ j_Fo x out h h') j_no := by
  refine j_intro km_237 (Nat.le_of_ble_eq_true rfl) ?_
  intro J hJ hF
  refine hJ [] 400 _ _ _ _ _ _ ?_
  conv => whnf
  refine ⟨hW.1, rfl, _, _, _, _, _, _, c_G_narrowed (h := h) hW j_Sc.rf, ⟨Nat.le_of_ble_eq_true rfl, Nat.le_of_ble_eq_true rfl, Nat.le_of_ble_eq_true rfl, Nat.le_of_ble_eq_true rfl⟩, ?_, ?_⟩
  · rintro k9 h9 ⟨hk, it', rfl, s'⟩
    have f := j_Fr.sc hW s' j_sf_ok j_sf8
    simp only [List.mem_cons, List.not_mem_nil, or_false] at hk
    rcases hk with rfl
    all_goals
      conv => whnf
      intro a9
      conv => whnf
      exact ⟨trivial, ⟨Nat.le_of_ble_eq_true rfl, Nat.le_of_ble_eq_true rfl⟩, ⟨_, rfl⟩, f.fo⟩
  · rintro v9 h9 ⟨it', rfl, s', r, rfl⟩
    have f := j_Fr.sc hW s' j_sf_ok j_sf8
    conv => whnf
    refine ⟨_, rfl, ((f.2.1.2 out (j_nn ko)).1).trans ko, ?_⟩
    conv => whnf
    exact ⟨trivial, ⟨Nat.le_of_ble_eq_true rfl, Nat.le_of_ble_eq_true rfl⟩, ⟨_, rfl⟩, f.out ko⟩
set_option maxHeartbeats 4000000 in
set_option maxRecDepth 20000 in
theorem c_Lw_ofGrain {h : j_H} {x out : Nat} {a : Int32} {b : Int32} (hW : j_WF h x) (ko : j_kd h out = some (.inl 9)) : j_Ct 238 7 132 1 6 [j_r (some x), j_i a, j_i b, j_r (some out)] h (fun v h' => (∃ r, v = some (j_i r)) ∧ j_Fo x out h h') j_no := by
  refine j_intro km_238 (Nat.le_of_ble_eq_true rfl) ?_
  intro J hJ hF
  refine hJ [] 400 _ _ _ _ _ _ ?_
  conv => whnf
  refine ⟨hW.1, rfl, _, _, _, _, _, _, c_G_ofGrain (h := h) hW j_Sc.rf, ⟨Nat.le_of_ble_eq_true rfl, Nat.le_of_ble_eq_true rfl, Nat.le_of_ble_eq_true rfl, Nat.le_of_ble_eq_true rfl⟩, ?_, ?_⟩
  · rintro k9 h9 ⟨hk, it', rfl, s'⟩
    have f := j_Fr.sc hW s' j_sf_ok j_sf8
    simp only [List.mem_cons, List.not_mem_nil, or_false] at hk
    rcases hk with rfl | rfl
    all_goals
      conv => whnf
      intro a9
      conv => whnf
      exact ⟨trivial, ⟨Nat.le_of_ble_eq_true rfl, Nat.le_of_ble_eq_true rfl⟩, ⟨_, rfl⟩, f.fo⟩
  · rintro v9 h9 ⟨it', rfl, s', r, rfl⟩
    have f := j_Fr.sc hW s' j_sf_ok j_sf8
    conv => whnf
    refine ⟨_, rfl, ((f.2.1.2 out (j_nn ko)).1).trans ko, ?_⟩
    conv => whnf
    exact ⟨trivial, ⟨Nat.le_of_ble_eq_true rfl, Nat.le_of_ble_eq_true rfl⟩, ⟨_, rfl⟩, f.out ko⟩
set_option maxHeartbeats 4000000 in
set_option maxRecDepth 20000 in
theorem c_Lw_ofPrint {h : j_H} {x out : Nat} {a : Int32} {b : Int32} (hW : j_WF h x) (ko : j_kd h out = some (.inl 9)) : j_Ct 239 7 112 1 6 [j_r (some x), j_i a, j_i b, j_r (some out)] h (fun v h' => (∃ r, v = some (j_i r)) ∧ j_Fo x out h h') j_no := by
  refine j_intro km_239 (Nat.le_of_ble_eq_true rfl) ?_
  intro J hJ hF
  refine hJ [] 400 _ _ _ _ _ _ ?_
  conv => whnf
  refine ⟨hW.1, rfl, _, _, _, _, _, _, c_G_ofPrint (h := h) hW j_Sc.rf, ⟨Nat.le_of_ble_eq_true rfl, Nat.le_of_ble_eq_true rfl, Nat.le_of_ble_eq_true rfl, Nat.le_of_ble_eq_true rfl⟩, ?_, ?_⟩
  · rintro k9 h9 ⟨hk, it', rfl, s'⟩
    have f := j_Fr.sc hW s' j_sf_ok j_sf8
    simp only [List.mem_cons, List.not_mem_nil, or_false] at hk
    rcases hk with rfl | rfl
    all_goals
      conv => whnf
      intro a9
      conv => whnf
      exact ⟨trivial, ⟨Nat.le_of_ble_eq_true rfl, Nat.le_of_ble_eq_true rfl⟩, ⟨_, rfl⟩, f.fo⟩
  · rintro v9 h9 ⟨it', rfl, s', r, rfl⟩
    have f := j_Fr.sc hW s' j_sf_ok j_sf8
    conv => whnf
    refine ⟨_, rfl, ((f.2.1.2 out (j_nn ko)).1).trans ko, ?_⟩
    conv => whnf
    exact ⟨trivial, ⟨Nat.le_of_ble_eq_true rfl, Nat.le_of_ble_eq_true rfl⟩, ⟨_, rfl⟩, f.out ko⟩
set_option maxHeartbeats 4000000 in
set_option maxRecDepth 20000 in
theorem c_Lw_ofRun {h : j_H} {x out : Nat} {a : Int32} {b : Int32} (hW : j_WF h x) (ko : j_kd h out = some (.inl 9)) : j_Ct 240 7 112 1 6 [j_r (some x), j_i a, j_i b, j_r (some out)] h (fun v h' => (∃ r, v = some (j_i r)) ∧ j_Fo x out h h') j_no := by
  refine j_intro km_240 (Nat.le_of_ble_eq_true rfl) ?_
  intro J hJ hF
  refine hJ [] 400 _ _ _ _ _ _ ?_
  conv => whnf
  refine ⟨hW.1, rfl, _, _, _, _, _, _, c_G_ofRun (h := h) hW j_Sc.rf, ⟨Nat.le_of_ble_eq_true rfl, Nat.le_of_ble_eq_true rfl, Nat.le_of_ble_eq_true rfl, Nat.le_of_ble_eq_true rfl⟩, ?_, ?_⟩
  · rintro k9 h9 ⟨hk, it', rfl, s'⟩
    have f := j_Fr.sc hW s' j_sf_ok j_sf8
    simp only [List.mem_cons, List.not_mem_nil, or_false] at hk
    rcases hk with rfl | rfl
    all_goals
      conv => whnf
      intro a9
      conv => whnf
      exact ⟨trivial, ⟨Nat.le_of_ble_eq_true rfl, Nat.le_of_ble_eq_true rfl⟩, ⟨_, rfl⟩, f.fo⟩
  · rintro v9 h9 ⟨it', rfl, s', r, rfl⟩
    have f := j_Fr.sc hW s' j_sf_ok j_sf8
    conv => whnf
    refine ⟨_, rfl, ((f.2.1.2 out (j_nn ko)).1).trans ko, ?_⟩
    conv => whnf
    exact ⟨trivial, ⟨Nat.le_of_ble_eq_true rfl, Nat.le_of_ble_eq_true rfl⟩, ⟨_, rfl⟩, f.out ko⟩
set_option maxHeartbeats 4000000 in
set_option maxRecDepth 20000 in
theorem c_Lw_print {h : j_H} {x out : Nat} {a : Int32} {b : Int32} (hW : j_WF h x) (ko : j_kd h out = some (.inl 9)) : j_Ct 243 8 182 2 44 [j_r (some x), j_i a, j_i b, j_r (some out)] h (fun v h' => (∃ r, v = some (j_i r)) ∧ j_Fo x out h h') j_no := by
  refine j_intro km_243 (Nat.le_of_ble_eq_true rfl) ?_
  intro J hJ hF
  refine hJ [] 400 _ _ _ _ _ _ ?_
  conv => whnf
  refine ⟨hW.1, rfl, _, _, _, _, _, _, c_G_print (h := h) hW j_Sc.rf, ⟨Nat.le_of_ble_eq_true rfl, Nat.le_of_ble_eq_true rfl, Nat.le_of_ble_eq_true rfl, Nat.le_of_ble_eq_true rfl⟩, ?_, ?_⟩
  · rintro k9 h9 ⟨hk, it', rfl, s'⟩
    have f := j_Fr.sc hW s' j_sf_ok j_sf8
    simp only [List.mem_cons, List.not_mem_nil, or_false] at hk
    rcases hk with rfl | rfl
    all_goals
      conv => whnf
      intro a9
      conv => whnf
      exact ⟨trivial, ⟨Nat.le_of_ble_eq_true rfl, Nat.le_of_ble_eq_true rfl⟩, ⟨_, rfl⟩, f.fo⟩
  · rintro v9 h9 ⟨⟨r, rfl⟩, f⟩
    conv => whnf
    refine ⟨_, rfl, ((f.2.1.2 out (j_nn ko)).1).trans ko, ?_⟩
    conv => whnf
    exact ⟨trivial, ⟨Nat.le_of_ble_eq_true rfl, Nat.le_of_ble_eq_true rfl⟩, ⟨_, rfl⟩, f.out ko⟩
set_option maxHeartbeats 4000000 in
set_option maxRecDepth 20000 in
theorem c_Lw_span {h : j_H} {x out : Nat} {a : Int32} {b : Int32} {c : Int32} (hW : j_WF h x) (ko : j_kd h out = some (.inl 9)) : j_Ct 246 7 116 1 6 [j_r (some x), j_i a, j_i b, j_i c, j_r (some out)] h (fun v h' => (∃ r, v = some (j_i r)) ∧ j_Fo x out h h') j_no := by
  refine j_intro km_246 (Nat.le_of_ble_eq_true rfl) ?_
  intro J hJ hF
  refine hJ [] 400 _ _ _ _ _ _ ?_
  conv => whnf
  refine ⟨hW.1, rfl, _, _, _, _, _, _, c_G_span (h := h) hW j_Sc.rf, ⟨Nat.le_of_ble_eq_true rfl, Nat.le_of_ble_eq_true rfl, Nat.le_of_ble_eq_true rfl, Nat.le_of_ble_eq_true rfl⟩, ?_, ?_⟩
  · rintro k9 h9 ⟨hk, it', rfl, s'⟩
    have f := j_Fr.sc hW s' j_sm_ok j_sm8
    simp only [List.mem_cons, List.not_mem_nil, or_false] at hk
    rcases hk with rfl | rfl
    all_goals
      conv => whnf
      intro a9
      conv => whnf
      exact ⟨trivial, ⟨Nat.le_of_ble_eq_true rfl, Nat.le_of_ble_eq_true rfl⟩, ⟨_, rfl⟩, f.fo⟩
  · rintro v9 h9 ⟨it', rfl, s', r, rfl⟩
    have f := j_Fr.sc hW s' j_sm_ok j_sm8
    conv => whnf
    refine ⟨_, rfl, ((f.2.1.2 out (j_nn ko)).1).trans ko, ?_⟩
    conv => whnf
    exact ⟨trivial, ⟨Nat.le_of_ble_eq_true rfl, Nat.le_of_ble_eq_true rfl⟩, ⟨_, rfl⟩, f.out ko⟩
set_option maxHeartbeats 4000000 in
set_option maxRecDepth 20000 in
theorem c_Lw_swap {h : j_H} {x out : Nat} {a : Int32} {b : Int32} (hW : j_WF h x) (ko : j_kd h out = some (.inl 9)) : j_Ct 247 7 134 1 6 [j_r (some x), j_i a, j_i b, j_r (some out)] h (fun v h' => (∃ r, v = some (j_i r)) ∧ j_Fo x out h h') j_no := by
  refine j_intro km_247 (Nat.le_of_ble_eq_true rfl) ?_
  intro J hJ hF
  refine hJ [] 400 _ _ _ _ _ _ ?_
  conv => whnf
  refine ⟨hW.1, rfl, _, _, _, _, _, _, c_G_swap (h := h) hW j_Sc.rf, ⟨Nat.le_of_ble_eq_true rfl, Nat.le_of_ble_eq_true rfl, Nat.le_of_ble_eq_true rfl, Nat.le_of_ble_eq_true rfl⟩, ?_, ?_⟩
  · rintro k9 h9 ⟨hk, it', rfl, s'⟩
    have f := j_Fr.sc hW s' j_sf_ok j_sf8
    simp only [List.mem_cons, List.not_mem_nil, or_false] at hk
    rcases hk with rfl | rfl
    all_goals
      conv => whnf
      intro a9
      conv => whnf
      exact ⟨trivial, ⟨Nat.le_of_ble_eq_true rfl, Nat.le_of_ble_eq_true rfl⟩, ⟨_, rfl⟩, f.fo⟩
  · rintro v9 h9 ⟨⟨r, rfl⟩, f⟩
    conv => whnf
    refine ⟨_, rfl, ((f.2.1.2 out (j_nn ko)).1).trans ko, ?_⟩
    conv => whnf
    exact ⟨trivial, ⟨Nat.le_of_ble_eq_true rfl, Nat.le_of_ble_eq_true rfl⟩, ⟨_, rfl⟩, f.out ko⟩
set_option maxHeartbeats 4000000 in
set_option maxRecDepth 20000 in
theorem c_Lw_wash {h : j_H} {x out : Nat} {a : Int32} {b : Int32} (hW : j_WF h x) (ko : j_kd h out = some (.inl 9)) : j_Ct 249 7 113 1 6 [j_r (some x), j_i a, j_i b, j_r (some out)] h (fun v h' => (∃ r, v = some (j_i r)) ∧ j_Fo x out h h') j_no := by
  refine j_intro km_249 (Nat.le_of_ble_eq_true rfl) ?_
  intro J hJ hF
  refine hJ [] 400 _ _ _ _ _ _ ?_
  conv => whnf
  refine ⟨hW.1, rfl, _, _, _, _, _, _, c_G_wash (h := h) hW j_Sc.rf, ⟨Nat.le_of_ble_eq_true rfl, Nat.le_of_ble_eq_true rfl, Nat.le_of_ble_eq_true rfl, Nat.le_of_ble_eq_true rfl⟩, ?_, ?_⟩
  · rintro k9 h9 ⟨hk, it', rfl, s'⟩
    have f := j_Fr.sc hW s' j_sm_ok j_sm8
    simp only [List.mem_cons, List.not_mem_nil, or_false] at hk
    rcases hk with rfl | rfl
    all_goals
      conv => whnf
      intro a9
      conv => whnf
      exact ⟨trivial, ⟨Nat.le_of_ble_eq_true rfl, Nat.le_of_ble_eq_true rfl⟩, ⟨_, rfl⟩, f.fo⟩
  · rintro v9 h9 ⟨it', rfl, s', r, rfl⟩
    have f := j_Fr.sc hW s' j_sm_ok j_sm8
    conv => whnf
    refine ⟨_, rfl, ((f.2.1.2 out (j_nn ko)).1).trans ko, ?_⟩
    conv => whnf
    exact ⟨trivial, ⟨Nat.le_of_ble_eq_true rfl, Nat.le_of_ble_eq_true rfl⟩, ⟨_, rfl⟩, f.out ko⟩
set_option maxHeartbeats 4000000 in
set_option maxRecDepth 20000 in
theorem c_Lw_wider {h : j_H} {x out : Nat} {a : Int32} {b : Int32} (hW : j_WF h x) (ko : j_kd h out = some (.inl 9)) : j_Ct 250 7 115 1 6 [j_r (some x), j_i a, j_i b, j_r (some out)] h (fun v h' => (∃ r, v = some (j_i r)) ∧ j_Fo x out h h') j_no := by
  refine j_intro km_250 (Nat.le_of_ble_eq_true rfl) ?_
  intro J hJ hF
  refine hJ [] 400 _ _ _ _ _ _ ?_
  conv => whnf
  refine ⟨hW.1, rfl, _, _, _, _, _, _, c_G_wider (h := h) hW j_Sc.rf, ⟨Nat.le_of_ble_eq_true rfl, Nat.le_of_ble_eq_true rfl, Nat.le_of_ble_eq_true rfl, Nat.le_of_ble_eq_true rfl⟩, ?_, ?_⟩
  · rintro k9 h9 ⟨hk, it', rfl, s'⟩
    have f := j_Fr.sc hW s' j_sm_ok j_sm8
    simp only [List.mem_cons, List.not_mem_nil, or_false] at hk
    rcases hk with rfl | rfl
    all_goals
      conv => whnf
      intro a9
      conv => whnf
      exact ⟨trivial, ⟨Nat.le_of_ble_eq_true rfl, Nat.le_of_ble_eq_true rfl⟩, ⟨_, rfl⟩, f.fo⟩
  · rintro v9 h9 ⟨it', rfl, s', r, rfl⟩
    have f := j_Fr.sc hW s' j_sm_ok j_sm8
    conv => whnf
    refine ⟨_, rfl, ((f.2.1.2 out (j_nn ko)).1).trans ko, ?_⟩
    conv => whnf
    exact ⟨trivial, ⟨Nat.le_of_ble_eq_true rfl, Nat.le_of_ble_eq_true rfl⟩, ⟨_, rfl⟩, f.out ko⟩
set_option maxHeartbeats 4000000 in
set_option maxRecDepth 20000 in
theorem c_Lw_withdraw {h : j_H} {x out : Nat} {a : Int32} (hW : j_WF h x) (ko : j_kd h out = some (.inl 9)) : j_Ct 251 7 113 1 6 [j_r (some x), j_i a, j_r (some out)] h (fun v h' => (∃ r, v = some (j_i r)) ∧ j_Fo x out h h') j_no := by
  refine j_intro km_251 (Nat.le_of_ble_eq_true rfl) ?_
  intro J hJ hF
  refine hJ [] 400 _ _ _ _ _ _ ?_
  conv => whnf
  refine ⟨hW.1, rfl, _, _, _, _, _, _, c_G_withdraw (h := h) hW j_Sc.rf, ⟨Nat.le_of_ble_eq_true rfl, Nat.le_of_ble_eq_true rfl, Nat.le_of_ble_eq_true rfl, Nat.le_of_ble_eq_true rfl⟩, ?_, ?_⟩
  · rintro k9 h9 ⟨hk, it', rfl, s'⟩
    have f := j_Fr.sc hW s' j_sm_ok j_sm8
    simp only [List.mem_cons, List.not_mem_nil, or_false] at hk
    rcases hk with rfl | rfl
    all_goals
      conv => whnf
      intro a9
      conv => whnf
      exact ⟨trivial, ⟨Nat.le_of_ble_eq_true rfl, Nat.le_of_ble_eq_true rfl⟩, ⟨_, rfl⟩, f.fo⟩
  · rintro v9 h9 ⟨it', rfl, s', r, rfl⟩
    have f := j_Fr.sc hW s' j_sm_ok j_sm8
    conv => whnf
    refine ⟨_, rfl, ((f.2.1.2 out (j_nn ko)).1).trans ko, ?_⟩
    conv => whnf
    exact ⟨trivial, ⟨Nat.le_of_ble_eq_true rfl, Nat.le_of_ble_eq_true rfl⟩, ⟨_, rfl⟩, f.out ko⟩
