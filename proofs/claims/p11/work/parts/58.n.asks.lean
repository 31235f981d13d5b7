/-! the law's calls that ask: the state stays -/
def z_Fo (x out : Nat) (h h' : j_H) : Prop := j_Fq x out h h' ∧ z_I h' x ∧ z_eq (z_c h' x) (z_c h x)
theorem z_Fo.of {x out : Nat} {h h' : j_H} (f : j_Fr x h h' ∧ z_I h' x ∧ z_eq (z_c h' x) (z_c h x)) : z_Fo x out h h' := ⟨f.1.fo.fq, f.2⟩
theorem z_Fo.out {x out k : Nat} {h h' : j_H} {v : j_V} (f : j_Fr x h h' ∧ z_I h' x ∧ z_eq (z_c h' x) (z_c h x)) (ko : j_kd h out = some (.inl 9)) : z_Fo x out h (j_up h' out k v) := by
  obtain ⟨I2, t2⟩ := z_out (k := k) (v := v) f.1.fs f.2.1 ko
  exact ⟨(f.1.fs.out ko).1, I2, t2.tr f.2.2⟩
set_option maxHeartbeats 4000000 in
set_option maxRecDepth 20000 in
theorem c_Lw_agez {h : j_H} {x out : Nat} {a : Int32} {b : Int32} {c : Int32} {d : Int32} (hW : j_WF h x) (I : z_I h x) (ko : j_kd h out = some (.inl 9)) : j_Ct 231 7 115 1 6 [j_r (some x), j_i a, j_i b, j_i c, j_i d, j_r (some out)] h (fun v h' => (∃ r, v = some (j_i r)) ∧ z_Fo x out h h') j_no := by
  refine j_intro km_231 (Nat.le_of_ble_eq_true rfl) ?_
  intro J hJ hF
  refine hJ [] 400 _ _ _ _ _ _ ?_
  conv => whnf
  refine ⟨hW.1, rfl, _, _, _, _, _, _, c_G_age (h := h) hW j_Sc.rf, ⟨Nat.le_of_ble_eq_true rfl, Nat.le_of_ble_eq_true rfl, Nat.le_of_ble_eq_true rfl, Nat.le_of_ble_eq_true rfl⟩, ?_, ?_⟩
  · rintro k9 h9 ⟨hk, it', rfl, s'⟩
    have f := z_notes hW I s'
    simp only [List.mem_cons, List.not_mem_nil, or_false] at hk
    rcases hk with rfl | rfl
    all_goals
      conv => whnf
      intro a9
      conv => whnf
      exact ⟨trivial, ⟨Nat.le_of_ble_eq_true rfl, Nat.le_of_ble_eq_true rfl⟩, ⟨_, rfl⟩, z_Fo.of f⟩
  · rintro v9 h9 ⟨it', rfl, s', r, rfl⟩
    have f := z_notes hW I s'
    conv => whnf
    refine ⟨_, rfl, ((f.1.2.1.2 out (j_nn ko)).1).trans ko, ?_⟩
    conv => whnf
    exact ⟨trivial, ⟨Nat.le_of_ble_eq_true rfl, Nat.le_of_ble_eq_true rfl⟩, ⟨_, rfl⟩, z_Fo.out f ko⟩
set_option maxHeartbeats 4000000 in
set_option maxRecDepth 20000 in
theorem c_Lw_labz {h : j_H} {x out : Nat} {a : Int32} (hW : j_WF h x) (I : z_I h x) (ko : j_kd h out = some (.inl 9)) : j_Ct 235 8 177 1 6 [j_r (some x), j_i a, j_r (some out)] h (fun v h' => (∃ r, v = some (j_i r)) ∧ z_Fo x out h h') j_no := by
  refine j_intro km_235 (Nat.le_of_ble_eq_true rfl) ?_
  intro J hJ hF
  refine hJ [] 400 _ _ _ _ _ _ ?_
  conv => whnf
  refine ⟨hW.1, rfl, _, _, _, _, _, _, c_G_lab (h := h) hW j_Sc.rf, ⟨Nat.le_of_ble_eq_true rfl, Nat.le_of_ble_eq_true rfl, Nat.le_of_ble_eq_true rfl, Nat.le_of_ble_eq_true rfl⟩, ?_, ?_⟩
  · rintro k9 h9 ⟨hk, it', rfl, s'⟩
    have f := z_notes hW I s'
    simp only [List.mem_cons, List.not_mem_nil, or_false] at hk
    rcases hk with rfl
    all_goals
      conv => whnf
      intro a9
      conv => whnf
      exact ⟨trivial, ⟨Nat.le_of_ble_eq_true rfl, Nat.le_of_ble_eq_true rfl⟩, ⟨_, rfl⟩, z_Fo.of f⟩
  · rintro v9 h9 ⟨it', rfl, s', r, rfl⟩
    have f := z_notes hW I s'
    conv => whnf
    refine ⟨_, rfl, ((f.1.2.1.2 out (j_nn ko)).1).trans ko, ?_⟩
    conv => whnf
    exact ⟨trivial, ⟨Nat.le_of_ble_eq_true rfl, Nat.le_of_ble_eq_true rfl⟩, ⟨_, rfl⟩, z_Fo.out f ko⟩
set_option maxHeartbeats 4000000 in
set_option maxRecDepth 20000 in
theorem c_Lw_leftz {h : j_H} {x out : Nat} {a : Int32} {b : Int32} {c : Int32} (hW : j_WF h x) (I : z_I h x) (ko : j_kd h out = some (.inl 9)) : j_Ct 236 7 113 1 6 [j_r (some x), j_i a, j_i b, j_i c, j_r (some out)] h (fun v h' => (∃ r, v = some (j_i r)) ∧ z_Fo x out h h') j_no := by
  refine j_intro km_236 (Nat.le_of_ble_eq_true rfl) ?_
  intro J hJ hF
  refine hJ [] 400 _ _ _ _ _ _ ?_
  conv => whnf
  refine ⟨hW.1, rfl, _, _, _, _, _, _, c_G_left (h := h) hW j_Sc.rf, ⟨Nat.le_of_ble_eq_true rfl, Nat.le_of_ble_eq_true rfl, Nat.le_of_ble_eq_true rfl, Nat.le_of_ble_eq_true rfl⟩, ?_, ?_⟩
  · rintro k9 h9 ⟨hk, it', rfl, s'⟩
    have f := z_notes hW I s'
    simp only [List.mem_cons, List.not_mem_nil, or_false] at hk
    rcases hk with rfl | rfl
    all_goals
      conv => whnf
      intro a9
      conv => whnf
      exact ⟨trivial, ⟨Nat.le_of_ble_eq_true rfl, Nat.le_of_ble_eq_true rfl⟩, ⟨_, rfl⟩, z_Fo.of f⟩
  · rintro v9 h9 ⟨it', rfl, s', r, rfl⟩
    have f := z_notes hW I s'
    conv => whnf
    refine ⟨_, rfl, ((f.1.2.1.2 out (j_nn ko)).1).trans ko, ?_⟩
    conv => whnf
    exact ⟨trivial, ⟨Nat.le_of_ble_eq_true rfl, Nat.le_of_ble_eq_true rfl⟩, ⟨_, rfl⟩, z_Fo.out f ko⟩
