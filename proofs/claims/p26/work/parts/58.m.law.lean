/-! the law's calls on the object: state for state -/
/-- what x holds when others change -/
theorem z_off {S : Nat → Prop} {h h1 : j_H} {x : Nat} (w : j_WF h x) (I : z_I h x) (o : j_On S h h1) (hS : ∀ q, S q → j_ow h x q → (∃ t, j_kd h q = some (.inr t)) ∧ j_ln h q = 0) : z_I h1 x ∧ z_eq (z_c h1 x) (z_c h x) := by
  have ob : ∀ {q c}, j_kd h q = some (.inl c) → j_ow h x q → ∀ k, j_it h1 q k = j_it h q k ∧ j_rf h1 q k = j_rf h q k := fun {q c} hq ho => by
    have hn : ¬ S q := fun z => by obtain ⟨⟨t, ht⟩, -⟩ := hS q z ho; rw [hq] at ht; cases ht
    have := o.2 q (j_nn hq)
    exact fun k => ⟨(this.2.2 hn k).1, (this.2.2 hn k).2.2⟩
  have og : ∀ q c, j_kd h q = some (.inl c) → 4 ≤ c → c ≤ 8 → ∀ k, j_it h1 q k = j_it h q k ∧ j_rf h1 q k = j_rf h q k := fun q c hq h4 h8 => ob hq (Or.inl ⟨c, hq, h4, h8⟩)
  have ox := og x 8 w.1 (by decide) (by decide)
  refine z_same w I (fun i hi => ?_) (fun i k hi hk => ?_) (fun j => (ox j).1) (fun q c hq h4 h7 => og q c hq h4 (by omega))
  · obtain ⟨L, arr, t, e, kL, -⟩ := z_L w hi
    rw [j_sz_e e, j_sz_e (((ox i).2).trans e)]
    exact (ob kL (Or.inr ⟨i, L, hi, e, Or.inl rfl⟩) 2).1
  · obtain ⟨L, arr, t, e, kL, f1, f2, f4, b0, f6⟩ := z_L w hi
    unfold z_in at hk
    rw [j_sz_e e] at hk
    obtain ⟨y, y1, y2⟩ := f6 k hk
    have na : ¬ S arr := fun z => by
      have := (hS arr z (Or.inr ⟨i, L, hi, e, Or.inr f1⟩)).2
      omega
    rw [y2]
    exact z_el_of (((ox i).2).trans e) (((ob kL (Or.inr ⟨i, L, hi, e, Or.inl rfl⟩) 1).2).trans f1) ((((o.2 arr (j_nn f2)).2.2 na k).2.2).trans y1)
/-- the object's number told -/
theorem z_out {h' h : j_H} {x out k : Nat} {v : j_V} (f : j_Fs x h h') (I : z_I h' x) (ko : j_kd h out = some (.inl 9)) : z_I (j_up h' out k v) x ∧ z_eq (z_c (j_up h' out k v) x) (z_c h' x) := by
  have ko' : j_kd h' out = some (.inl 9) := ((f.2.1.2 out (j_nn ko)).1).trans ko
  exact z_off (S := fun q => q = out) f.1 I (j_On.up rfl) (fun q hq ho => by
    rw [hq] at ho
    exact absurd ho (j_now f.1 ko' (by decide)))
/-- what the law's call of a method leaves: its number, the answer, the state -/
def z_LQ (x out : Nat) (h : j_H) (q : Int) (A : Int32) (N : j_Z) (v : Option j_V) (h' : j_H) : Prop := v = some (j_i (Int32.ofInt q)) ∧ j_Fq x out h h' ∧ (q = 0 → z_I h' x ∧ z_eq (z_c h' x) N) ∧ (q ≠ 0 → z_I h' x ∧ z_eq (z_c h' x) (z_c h x)) ∧ (q = 0 → j_lg h' out 0 = A.toInt64)
theorem z_LQ.no {x out : Nat} {h : j_H} {q n : Int} {A : Int32} {N : j_Z} (w : j_WF h x) (I : z_I h x) (e : q = n) (hn : n ≠ 0) : z_LQ x out h q A N (some (j_i (Int32.ofInt n))) h :=
  ⟨by rw [e], ⟨w, j_On.rf, fun _ z _ => z⟩, fun z => absurd (e.symm.trans z) hn, fun _ => ⟨I, z_eq.rf⟩, fun z => absurd (e.symm.trans z) hn⟩
theorem z_LQ.ok {x out : Nat} {h h' : j_H} {q : Int} {A : Int32} {N : j_Z} (ko : j_kd h out = some (.inl 9)) (e : q = 0) (f : j_Fs x h h') (I : z_I h' x) (t : z_eq (z_c h' x) N) : z_LQ x out h q A N (some (j_i (Int32.ofInt 0))) (j_up h' out 0 (j_l A.toInt64)) := by
  obtain ⟨a, -⟩ := f.out (k := 0) (v := j_l A.toInt64) ko
  obtain ⟨I2, t2⟩ := z_out (k := 0) (v := j_l A.toInt64) f I ko
  refine ⟨by rw [e], a, fun _ => ⟨I2, t2.tr t⟩, fun z => absurd e z, fun _ => ?_⟩
  show j_u _ out 0 A.toInt64 out 0 = A.toInt64
  exact j_u_at
noncomputable def q_touch (z : j_Z) (a b : Int32) : Int := j_cq (0 ≤ a.toInt ∧ a.toInt < (z.1 0).toInt) (j_cq (0 ≤ b.toInt ∧ b.toInt ≤ 100) 0 2) 1
noncomputable def q_withdraw (z : j_Z) (a : Int32) : Int := j_cq (0 ≤ a.toInt ∧ a.toInt < (z.1 1).toInt) (j_cq (¬ (z.2.2.2.1 a.toNatClampNeg 6).toInt = 0) 0 2) 1
noncomputable def q_swap (z : j_Z) (a b : Int32) : Int := j_cq ((0 ≤ a.toInt ∧ a.toInt < (z.1 1).toInt) ∧ 0 ≤ b.toInt ∧ b.toInt < (z.1 1).toInt) (j_cq (¬ a.toInt = b.toInt) 0 2) 1
noncomputable def q_print (z : j_Z) (a b : Int32) : Int := j_cq (z_okp z a b) (j_cq (z_okq z a b) 0 2) 1
set_option maxHeartbeats 4000000 in
set_option maxRecDepth 20000 in
theorem c_Lw_grainz {h : j_H} {x out : Nat} {a b c : Int32} (hW : j_WF h x) (I : z_I h x) (ko : j_kd h out = some (.inl 9)) : j_Ct 232 8 181 4 58 [j_r (some x), j_i a, j_i b, j_i c, j_r (some out)] h (z_LQ x out h (q_grain (z_cn h x) a b c) (z_cn h x 0) (n_grainz (z_c h x) a b c)) j_no := by
  refine j_intro km_232 (Nat.le_of_ble_eq_true rfl) ?_
  intro J hJ hF
  refine hJ [] 400 _ _ _ _ _ _ ?_
  conv => whnf
  refine ⟨hW.1, rfl, _, _, _, _, _, _, c_G_grainz hW I, ⟨Nat.le_of_ble_eq_true rfl, Nat.le_of_ble_eq_true rfl, Nat.le_of_ble_eq_true rfl, Nat.le_of_ble_eq_true rfl⟩, ?_, ?_⟩
  · rintro k9 h9 ⟨hk, e9⟩
    obtain rfl : h = h9 := e9.symm
    rcases hk with ⟨rfl, c1⟩ | ⟨rfl, c1, c2⟩
    · conv => whnf
      intro a9
      conv => whnf
      exact ⟨trivial, ⟨Nat.le_of_ble_eq_true rfl, Nat.le_of_ble_eq_true rfl⟩, z_LQ.no hW I (j_cqn c1) (by decide)⟩
    · conv => whnf
      intro a9
      conv => whnf
      exact ⟨trivial, ⟨Nat.le_of_ble_eq_true rfl, Nat.le_of_ble_eq_true rfl⟩, z_LQ.no hW I ((j_cqp c1).trans (j_cqn c2)) (by decide)⟩
  · rintro v9 h9 ⟨⟨c1, c2⟩, rfl, fs, I9, q9⟩
    conv => whnf
    refine ⟨_, rfl, ((fs.2.1.2 out (j_nn ko)).1).trans ko, ?_⟩
    conv => whnf
    exact ⟨trivial, ⟨Nat.le_of_ble_eq_true rfl, Nat.le_of_ble_eq_true rfl⟩, z_LQ.ok ko ((j_cqp c1).trans (j_cqp c2)) fs I9 q9⟩
set_option maxHeartbeats 4000000 in
set_option maxRecDepth 20000 in
theorem c_Lw_runz {h : j_H} {x out : Nat} {a b c d : Int32} (hW : j_WF h x) (I : z_I h x) (V : z_V (z_c h x)) (ko : j_kd h out = some (.inl 9)) : j_Ct 243 8 187 2 51 [j_r (some x), j_i a, j_i b, j_i c, j_i d, j_r (some out)] h (z_LQ x out h (q_run (z_cn h x) a b c d) (z_cn h x 1) (n_runF (z_c h x) a b c d)) j_no := by
  refine j_intro km_243 (Nat.le_of_ble_eq_true rfl) ?_
  intro J hJ hF
  refine hJ [] 400 _ _ _ _ _ _ ?_
  conv => whnf
  refine ⟨hW.1, rfl, _, _, _, _, _, _, c_G_runzz hW I V, ⟨Nat.le_of_ble_eq_true rfl, Nat.le_of_ble_eq_true rfl, Nat.le_of_ble_eq_true rfl, Nat.le_of_ble_eq_true rfl⟩, ?_, ?_⟩
  · rintro k9 h9 ⟨hk, e9⟩
    obtain rfl : h = h9 := e9.symm
    rcases hk with ⟨rfl, c1⟩ | ⟨rfl, c1, c2⟩ | ⟨rfl, c1, c2, c3⟩
    · conv => whnf
      intro a9
      conv => whnf
      exact ⟨trivial, ⟨Nat.le_of_ble_eq_true rfl, Nat.le_of_ble_eq_true rfl⟩, z_LQ.no hW I (j_cqn c1) (by decide)⟩
    · conv => whnf
      intro a9
      conv => whnf
      exact ⟨trivial, ⟨Nat.le_of_ble_eq_true rfl, Nat.le_of_ble_eq_true rfl⟩, z_LQ.no hW I ((j_cqp c1).trans (j_cqn c2)) (by decide)⟩
    · conv => whnf
      intro a9
      conv => whnf
      exact ⟨trivial, ⟨Nat.le_of_ble_eq_true rfl, Nat.le_of_ble_eq_true rfl⟩, z_LQ.no hW I ((j_cqp c1).trans ((j_cqp c2).trans (j_cqn c3))) (by decide)⟩
  · rintro v9 h9 ⟨⟨c1, c2, c3⟩, rfl, fs, I9, q9⟩
    conv => whnf
    refine ⟨_, rfl, ((fs.2.1.2 out (j_nn ko)).1).trans ko, ?_⟩
    conv => whnf
    exact ⟨trivial, ⟨Nat.le_of_ble_eq_true rfl, Nat.le_of_ble_eq_true rfl⟩, z_LQ.ok ko ((j_cqp c1).trans ((j_cqp c2).trans (j_cqp c3))) fs I9 q9⟩
set_option maxHeartbeats 4000000 in
set_option maxRecDepth 20000 in
theorem c_Lw_passz {h : j_H} {x out : Nat} {a : Int32} (hW : j_WF h x) (I : z_I h x) (V : z_V (z_c h x)) (ko : j_kd h out = some (.inl 9)) : j_Ct 241 7 113 1 6 [j_r (some x), j_i a, j_r (some out)] h (z_LQ x out h (q_pass (z_cn h x) a) (z_cn h x 6 + a) (n_years (z_c h x) a)) j_no := by
  refine j_intro km_241 (Nat.le_of_ble_eq_true rfl) ?_
  intro J hJ hF
  refine hJ [] 400 _ _ _ _ _ _ ?_
  conv => whnf
  refine ⟨hW.1, rfl, _, _, _, _, _, _, c_G_passz hW I V, ⟨Nat.le_of_ble_eq_true rfl, Nat.le_of_ble_eq_true rfl, Nat.le_of_ble_eq_true rfl, Nat.le_of_ble_eq_true rfl⟩, ?_, ?_⟩
  · rintro k9 h9 ⟨hk, e9⟩
    obtain rfl : h = h9 := e9.symm
    rcases hk with ⟨rfl, c1⟩ | ⟨rfl, c1, c2⟩
    · conv => whnf
      intro a9
      conv => whnf
      exact ⟨trivial, ⟨Nat.le_of_ble_eq_true rfl, Nat.le_of_ble_eq_true rfl⟩, z_LQ.no hW I (j_cqn c1) (by decide)⟩
    · conv => whnf
      intro a9
      conv => whnf
      exact ⟨trivial, ⟨Nat.le_of_ble_eq_true rfl, Nat.le_of_ble_eq_true rfl⟩, z_LQ.no hW I ((j_cqp c1).trans (j_cqn c2)) (by decide)⟩
  · rintro v9 h9 ⟨⟨c1, c2⟩, rfl, fs, I9, q9⟩
    conv => whnf
    refine ⟨_, rfl, ((fs.2.1.2 out (j_nn ko)).1).trans ko, ?_⟩
    conv => whnf
    exact ⟨trivial, ⟨Nat.le_of_ble_eq_true rfl, Nat.le_of_ble_eq_true rfl⟩, z_LQ.ok ko ((j_cqp c1).trans (j_cqp c2)) fs I9 q9⟩
set_option maxHeartbeats 4000000 in
set_option maxRecDepth 20000 in
theorem c_Lw_pacez {h : j_H} {x out : Nat} {a b : Int32} (hW : j_WF h x) (I : z_I h x) (V : z_V (z_c h x)) (ko : j_kd h out = some (.inl 9)) : j_Ct 240 7 115 1 6 [j_r (some x), j_i a, j_i b, j_r (some out)] h (z_LQ x out h (q_pace a b) (j_it h x (j_pf a)) (n_pacez (z_c h x) a b)) j_no := by
  refine j_intro km_240 (Nat.le_of_ble_eq_true rfl) ?_
  intro J hJ hF
  refine hJ [] 400 _ _ _ _ _ _ ?_
  conv => whnf
  refine ⟨hW.1, rfl, _, _, _, _, _, _, c_G_pacez hW I V, ⟨Nat.le_of_ble_eq_true rfl, Nat.le_of_ble_eq_true rfl, Nat.le_of_ble_eq_true rfl, Nat.le_of_ble_eq_true rfl⟩, ?_, ?_⟩
  · rintro k9 h9 ⟨hk, e9⟩
    obtain rfl : h = h9 := e9.symm
    rcases hk with ⟨rfl, c1⟩ | ⟨rfl, c1, c2⟩
    · conv => whnf
      intro a9
      conv => whnf
      exact ⟨trivial, ⟨Nat.le_of_ble_eq_true rfl, Nat.le_of_ble_eq_true rfl⟩, z_LQ.no hW I (j_cqn c1) (by decide)⟩
    · conv => whnf
      intro a9
      conv => whnf
      exact ⟨trivial, ⟨Nat.le_of_ble_eq_true rfl, Nat.le_of_ble_eq_true rfl⟩, z_LQ.no hW I ((j_cqp c1).trans (j_cqn c2)) (by decide)⟩
  · rintro v9 h9 ⟨⟨c1, c2⟩, rfl, fs, I9, q9⟩
    conv => whnf
    refine ⟨_, rfl, ((fs.2.1.2 out (j_nn ko)).1).trans ko, ?_⟩
    conv => whnf
    exact ⟨trivial, ⟨Nat.le_of_ble_eq_true rfl, Nat.le_of_ble_eq_true rfl⟩, z_LQ.ok ko ((j_cqp c1).trans (j_cqp c2)) fs I9 q9⟩
set_option maxHeartbeats 4000000 in
set_option maxRecDepth 20000 in
theorem c_Lw_slipz {h : j_H} {x out : Nat} {a : Int32} (hW : j_WF h x) (I : z_I h x) (ko : j_kd h out = some (.inl 9)) : j_Ct 244 7 112 1 6 [j_r (some x), j_i a, j_r (some out)] h (z_LQ x out h (q_slip a) (z_cn h x 5) (n_slipz (z_c h x) a)) j_no := by
  refine j_intro km_244 (Nat.le_of_ble_eq_true rfl) ?_
  intro J hJ hF
  refine hJ [] 400 _ _ _ _ _ _ ?_
  conv => whnf
  refine ⟨hW.1, rfl, _, _, _, _, _, _, c_G_slipz hW I, ⟨Nat.le_of_ble_eq_true rfl, Nat.le_of_ble_eq_true rfl, Nat.le_of_ble_eq_true rfl, Nat.le_of_ble_eq_true rfl⟩, ?_, ?_⟩
  · rintro k9 h9 ⟨rfl, c1, e9⟩
    obtain rfl : h = h9 := e9.symm
    conv => whnf
    intro a9
    conv => whnf
    exact ⟨trivial, ⟨Nat.le_of_ble_eq_true rfl, Nat.le_of_ble_eq_true rfl⟩, z_LQ.no hW I (j_cqn c1) (by decide)⟩
  · rintro v9 h9 ⟨c1, rfl, fs, I9, q9⟩
    conv => whnf
    refine ⟨_, rfl, ((fs.2.1.2 out (j_nn ko)).1).trans ko, ?_⟩
    conv => whnf
    exact ⟨trivial, ⟨Nat.le_of_ble_eq_true rfl, Nat.le_of_ble_eq_true rfl⟩, z_LQ.ok ko (j_cqp c1) fs I9 q9⟩
set_option maxHeartbeats 4000000 in
set_option maxRecDepth 20000 in
theorem c_Lw_heatz {h : j_H} {x out : Nat} {a b : Int32} (hW : j_WF h x) (I : z_I h x) (ko : j_kd h out = some (.inl 9)) : j_Ct 233 7 113 1 6 [j_r (some x), j_i a, j_i b, j_r (some out)] h (z_LQ x out h (q_touch (z_c h x) a b) (a_touch 1 (z_c h x) a b) (n_touch 1 (z_c h x) a b)) j_no := by
  refine j_intro km_233 (Nat.le_of_ble_eq_true rfl) ?_
  intro J hJ hF
  refine hJ [] 400 _ _ _ _ _ _ ?_
  conv => whnf
  refine ⟨hW.1, rfl, _, _, _, _, _, _, c_G_heatx hW I, ⟨Nat.le_of_ble_eq_true rfl, Nat.le_of_ble_eq_true rfl, Nat.le_of_ble_eq_true rfl, Nat.le_of_ble_eq_true rfl⟩, ?_, ?_⟩
  · rintro k9 h9 ⟨hk, e9⟩
    obtain rfl : h = h9 := e9.symm
    rcases hk with ⟨rfl, c1⟩ | ⟨rfl, c1, c2⟩
    · conv => whnf
      intro a9
      conv => whnf
      exact ⟨trivial, ⟨Nat.le_of_ble_eq_true rfl, Nat.le_of_ble_eq_true rfl⟩, z_LQ.no hW I (j_cqn c1) (by decide)⟩
    · conv => whnf
      intro a9
      conv => whnf
      exact ⟨trivial, ⟨Nat.le_of_ble_eq_true rfl, Nat.le_of_ble_eq_true rfl⟩, z_LQ.no hW I ((j_cqp c1).trans (j_cqn c2)) (by decide)⟩
  · rintro v9 h9 ⟨⟨c1, c2⟩, rfl, fs, I9, q9⟩
    conv => whnf
    refine ⟨_, rfl, ((fs.2.1.2 out (j_nn ko)).1).trans ko, ?_⟩
    conv => whnf
    exact ⟨trivial, ⟨Nat.le_of_ble_eq_true rfl, Nat.le_of_ble_eq_true rfl⟩, z_LQ.ok ko ((j_cqp c1).trans (j_cqp c2)) fs I9 q9⟩
set_option maxHeartbeats 4000000 in
set_option maxRecDepth 20000 in
theorem c_Lw_washz {h : j_H} {x out : Nat} {a b : Int32} (hW : j_WF h x) (I : z_I h x) (ko : j_kd h out = some (.inl 9)) : j_Ct 248 7 113 1 6 [j_r (some x), j_i a, j_i b, j_r (some out)] h (z_LQ x out h (q_touch (z_c h x) a b) (a_touch 0 (z_c h x) a b) (n_touch 0 (z_c h x) a b)) j_no := by
  refine j_intro km_248 (Nat.le_of_ble_eq_true rfl) ?_
  intro J hJ hF
  refine hJ [] 400 _ _ _ _ _ _ ?_
  conv => whnf
  refine ⟨hW.1, rfl, _, _, _, _, _, _, c_G_washx hW I, ⟨Nat.le_of_ble_eq_true rfl, Nat.le_of_ble_eq_true rfl, Nat.le_of_ble_eq_true rfl, Nat.le_of_ble_eq_true rfl⟩, ?_, ?_⟩
  · rintro k9 h9 ⟨hk, e9⟩
    obtain rfl : h = h9 := e9.symm
    rcases hk with ⟨rfl, c1⟩ | ⟨rfl, c1, c2⟩
    · conv => whnf
      intro a9
      conv => whnf
      exact ⟨trivial, ⟨Nat.le_of_ble_eq_true rfl, Nat.le_of_ble_eq_true rfl⟩, z_LQ.no hW I (j_cqn c1) (by decide)⟩
    · conv => whnf
      intro a9
      conv => whnf
      exact ⟨trivial, ⟨Nat.le_of_ble_eq_true rfl, Nat.le_of_ble_eq_true rfl⟩, z_LQ.no hW I ((j_cqp c1).trans (j_cqn c2)) (by decide)⟩
  · rintro v9 h9 ⟨⟨c1, c2⟩, rfl, fs, I9, q9⟩
    conv => whnf
    refine ⟨_, rfl, ((fs.2.1.2 out (j_nn ko)).1).trans ko, ?_⟩
    conv => whnf
    exact ⟨trivial, ⟨Nat.le_of_ble_eq_true rfl, Nat.le_of_ble_eq_true rfl⟩, z_LQ.ok ko ((j_cqp c1).trans (j_cqp c2)) fs I9 q9⟩
set_option maxHeartbeats 4000000 in
set_option maxRecDepth 20000 in
theorem c_Lw_withdrawz {h : j_H} {x out : Nat} {a : Int32} (hW : j_WF h x) (I : z_I h x) (ko : j_kd h out = some (.inl 9)) : j_Ct 250 7 113 1 6 [j_r (some x), j_i a, j_r (some out)] h (z_LQ x out h (q_withdraw (z_c h x) a) (a_withdraw (z_c h x) a) (n_withdraw (z_c h x) a)) j_no := by
  refine j_intro km_250 (Nat.le_of_ble_eq_true rfl) ?_
  intro J hJ hF
  refine hJ [] 400 _ _ _ _ _ _ ?_
  conv => whnf
  refine ⟨hW.1, rfl, _, _, _, _, _, _, c_G_withdrawz hW I, ⟨Nat.le_of_ble_eq_true rfl, Nat.le_of_ble_eq_true rfl, Nat.le_of_ble_eq_true rfl, Nat.le_of_ble_eq_true rfl⟩, ?_, ?_⟩
  · rintro k9 h9 ⟨hk, e9⟩
    obtain rfl : h = h9 := e9.symm
    rcases hk with ⟨rfl, c1⟩ | ⟨rfl, c1, c2⟩
    · conv => whnf
      intro a9
      conv => whnf
      exact ⟨trivial, ⟨Nat.le_of_ble_eq_true rfl, Nat.le_of_ble_eq_true rfl⟩, z_LQ.no hW I (j_cqn c1) (by decide)⟩
    · conv => whnf
      intro a9
      conv => whnf
      exact ⟨trivial, ⟨Nat.le_of_ble_eq_true rfl, Nat.le_of_ble_eq_true rfl⟩, z_LQ.no hW I ((j_cqp c1).trans (j_cqn (fun z => z c2))) (by decide)⟩
  · rintro v9 h9 ⟨⟨c1, c2⟩, rfl, fs, I9, q9⟩
    conv => whnf
    refine ⟨_, rfl, ((fs.2.1.2 out (j_nn ko)).1).trans ko, ?_⟩
    conv => whnf
    exact ⟨trivial, ⟨Nat.le_of_ble_eq_true rfl, Nat.le_of_ble_eq_true rfl⟩, z_LQ.ok ko ((j_cqp c1).trans (j_cqp c2)) fs I9 q9⟩
set_option maxHeartbeats 4000000 in
set_option maxRecDepth 20000 in
theorem c_Lw_swapz {h : j_H} {x out : Nat} {a b : Int32} (hW : j_WF h x) (I : z_I h x) (ko : j_kd h out = some (.inl 9)) : j_Ct 246 7 134 1 6 [j_r (some x), j_i a, j_i b, j_r (some out)] h (fun v h' => ∃ A, z_LQ x out h (q_swap (z_c h x) a b) A (n_swap (z_c h x) a b) v h') j_no := by
  refine j_intro km_246 (Nat.le_of_ble_eq_true rfl) ?_
  intro J hJ hF
  refine hJ [] 400 _ _ _ _ _ _ ?_
  conv => whnf
  refine ⟨hW.1, rfl, _, _, _, _, _, _, c_G_swapz hW I, ⟨Nat.le_of_ble_eq_true rfl, Nat.le_of_ble_eq_true rfl, Nat.le_of_ble_eq_true rfl, Nat.le_of_ble_eq_true rfl⟩, ?_, ?_⟩
  · rintro k9 h9 ⟨hk, e9⟩
    obtain rfl : h = h9 := e9.symm
    rcases hk with ⟨rfl, c1⟩ | ⟨rfl, c1, c2⟩
    · conv => whnf
      intro a9
      conv => whnf
      exact ⟨trivial, ⟨Nat.le_of_ble_eq_true rfl, Nat.le_of_ble_eq_true rfl⟩, ⟨Int32.ofInt 0, z_LQ.no hW I (j_cqn c1) (by decide)⟩⟩
    · conv => whnf
      intro a9
      conv => whnf
      exact ⟨trivial, ⟨Nat.le_of_ble_eq_true rfl, Nat.le_of_ble_eq_true rfl⟩, ⟨Int32.ofInt 0, z_LQ.no hW I ((j_cqp c1).trans (j_cqn (fun z => z c2))) (by decide)⟩⟩
  · rintro v9 h9 ⟨⟨c1, c2⟩, ⟨A9, rfl⟩, fs, I9, q9⟩
    conv => whnf
    refine ⟨_, rfl, ((fs.2.1.2 out (j_nn ko)).1).trans ko, ?_⟩
    conv => whnf
    exact ⟨trivial, ⟨Nat.le_of_ble_eq_true rfl, Nat.le_of_ble_eq_true rfl⟩, ⟨A9, z_LQ.ok ko ((j_cqp c1).trans (j_cqp c2)) fs I9 q9⟩⟩
set_option maxHeartbeats 4000000 in
set_option maxRecDepth 20000 in
theorem c_Lw_printz {h : j_H} {x out : Nat} {a b : Int32} (hW : j_WF h x) (I : z_I h x) (ko : j_kd h out = some (.inl 9)) : j_Ct 242 8 182 2 44 [j_r (some x), j_i a, j_i b, j_r (some out)] h (z_LQ x out h (q_print (z_c h x) a b) (z_cn h x 2) (n_print (z_c h x) a b)) j_no := by
  refine j_intro km_242 (Nat.le_of_ble_eq_true rfl) ?_
  intro J hJ hF
  refine hJ [] 400 _ _ _ _ _ _ ?_
  conv => whnf
  refine ⟨hW.1, rfl, _, _, _, _, _, _, c_G_printz hW I, ⟨Nat.le_of_ble_eq_true rfl, Nat.le_of_ble_eq_true rfl, Nat.le_of_ble_eq_true rfl, Nat.le_of_ble_eq_true rfl⟩, ?_, ?_⟩
  · rintro k9 h9 ⟨hk, e9⟩
    obtain rfl : h = h9 := e9.symm
    rcases hk with ⟨rfl, c1⟩ | ⟨rfl, c1, c2⟩
    · conv => whnf
      intro a9
      conv => whnf
      exact ⟨trivial, ⟨Nat.le_of_ble_eq_true rfl, Nat.le_of_ble_eq_true rfl⟩, z_LQ.no hW I (j_cqn c1) (by decide)⟩
    · conv => whnf
      intro a9
      conv => whnf
      exact ⟨trivial, ⟨Nat.le_of_ble_eq_true rfl, Nat.le_of_ble_eq_true rfl⟩, z_LQ.no hW I ((j_cqp c1).trans (j_cqn c2)) (by decide)⟩
  · rintro v9 h9 ⟨⟨c1, c2⟩, rfl, fs, I9, q9⟩
    conv => whnf
    refine ⟨_, rfl, ((fs.2.1.2 out (j_nn ko)).1).trans ko, ?_⟩
    conv => whnf
    exact ⟨trivial, ⟨Nat.le_of_ble_eq_true rfl, Nat.le_of_ble_eq_true rfl⟩, z_LQ.ok ko ((j_cqp c1).trans (j_cqp c2)) fs I9 q9⟩
