/-! swap told with its answer -/
theorem z_ofR {r : Int32} {n : Nat} (h : r.toInt = (n : Int)) : r = Int32.ofInt (n : Int) := by
  rw [← h, Int32.ofInt_toInt]
set_option maxHeartbeats 4000000 in
set_option maxRecDepth 20000 in
theorem c_G_swapx {h : j_H} {x : Nat} {a b : Int32} (hW : j_WF h x) (I : z_I h x) : j_Ct 138 6 109 1 6 [j_r (some x), j_i a, j_i b] h (fun v h' => (((0 ≤ a.toInt ∧ a.toInt < (j_sz h x 1).toInt) ∧ 0 ≤ b.toInt ∧ b.toInt < (j_sz h x 1).toInt) ∧ ¬ a.toInt = b.toInt) ∧ v = some (j_i (Int32.ofInt (z_dbn (n_swap (z_c h x) a b) : Int))) ∧ j_Fs x h h' ∧ z_I h' x ∧ z_eq (z_c h' x) (n_swap (z_c h x) a b)) (fun k h' => ((k = 2 ∧ ¬ ((0 ≤ a.toInt ∧ a.toInt < (j_sz h x 1).toInt) ∧ 0 ≤ b.toInt ∧ b.toInt < (j_sz h x 1).toInt)) ∨ (k = 0 ∧ ((0 ≤ a.toInt ∧ a.toInt < (j_sz h x 1).toInt) ∧ 0 ≤ b.toInt ∧ b.toInt < (j_sz h x 1).toInt) ∧ a.toInt = b.toInt)) ∧ h' = h) := by
  refine j_intro km_138 (Nat.le_of_ble_eq_true rfl) ?_
  intro J hJ hF
  obtain ⟨kx, hG, L0, L1, L2, e0, l0, e1, l1, e2, l2, ap, pn⟩ := id hW
  have z0 : (Int32.ofInt 0).toInt = 0 := by decide
  have z1 : (Int32.ofInt 1).toInt = 1 := by decide
  have eR : j_sz h x 1 = j_it h L1 2 := j_sz_e e1
  have G66 : ∀ (g3 g4 : Nat), ((0 ≤ a.toInt ∧ a.toInt < (j_sz h x 1).toInt) ∧ 0 ≤ b.toInt ∧ b.toInt < (j_sz h x 1).toInt) → ¬ a.toInt = b.toInt → z_el h x 1 a.toNatClampNeg = g3 → z_el h x 1 b.toNatClampNeg = g4 → j_kd h g3 = some (.inl 7) → j_kd h g4 = some (.inl 7) → J 66 [some (j_r (some x)), some (j_i a), some (j_i b), some (j_r (some g3)), some (j_r (some g4)), none] [] h 0 0 := by
    intro g3 g4 kab nab eA eB k3 k4
    have hA : z_in h x 1 a.toNatClampNeg := by unfold z_in; rw [j_clamp kab.1.1]; exact kab.1.2
    have hB : z_in h x 1 b.toNatClampNeg := by unfold z_in; rw [j_clamp kab.2.1]; exact kab.2.2
    have nAB : a.toNatClampNeg ≠ b.toNatClampNeg := fun z => by
      have ca := j_clamp kab.1.1
      have cb := j_clamp kab.2.1
      rw [z] at ca
      omega
    refine hJ [] 400 _ _ _ _ _ _ ?_
    conv => whnf
    refine ⟨_, rfl, k3, fun o eo => ?_⟩
    obtain ⟨b3, e3, kb3⟩ := hG.2.2.1 _ k3
    obtain rfl : o = some b3 := eo.symm.trans e3
    conv => whnf
    refine ⟨_, rfl, k4, fun o eo => ?_⟩
    obtain ⟨b4, e4, kb4⟩ := hG.2.2.1 _ k4
    obtain rfl : o = some b4 := eo.symm.trans e4
    conv => whnf
    refine ⟨_, rfl, k3, ?_⟩
    have f1 := j_Fr.up7 hW k3 kb4
    conv => whnf
    refine ⟨_, rfl, k4, ?_⟩
    have f2 := j_Fr.up7 f1.1 (g := g4) (b := b3) k4 kb3
    obtain ⟨I2, q2⟩ := z_swapped hW I hA hB nAB eA eB e3 e4 rfl
    conv => whnf
    refine ⟨kx, rfl, _, _, _, _, _, _, c_G_countDoublesx (h := j_up (j_up h g3 6 (j_r (some b4))) g4 6 (j_r (some b3))) f2.1 I2 j_Sc.rf, ⟨Nat.le_of_ble_eq_true rfl, Nat.le_of_ble_eq_true rfl, Nat.le_of_ble_eq_true rfl, Nat.le_of_ble_eq_true rfl⟩, fun _ _ z => False.elim z, ?_⟩
    rintro v9 h9 ⟨⟨it', e9, s9⟩, r, rfl, hr⟩
    have hA9 : r = (Int32.ofInt (z_dbn (n_swap (z_c h x) a b) : Int)) := z_ofR (hr.trans (congrArg Int.ofNat (z_dbn_c q2 (z_n1 (h := j_up (j_up h g3 6 (j_r (some b4))) g4 6 (j_r (some b3))) f2.1))))
    obtain ⟨f3, I3, q3⟩ := z_notes f2.1 I2 s9
    rw [← e9] at f3 I3 q3
    conv => whnf
    exact ⟨trivial, ⟨Nat.le_of_ble_eq_true rfl, Nat.le_of_ble_eq_true rfl⟩, ⟨kab, nab⟩, congrArg (fun r => some (j_i r)) hA9, ((f1.tr f2).tr f3).fs, I3, q3.tr q2⟩
  refine hJ [66] 400 _ _ _ _ _ _ ?_
  conv => whnf
  refine ⟨kx, rfl, _, _, _, _, _, _, c_isRunx hW e1, ⟨Nat.le_of_ble_eq_true rfl, Nat.le_of_ble_eq_true rfl, Nat.le_of_ble_eq_true rfl, Nat.le_of_ble_eq_true rfl⟩, fun _ _ z => False.elim z, ?_⟩
  rintro v9 h9 ⟨e9, r1, rfl, zr1⟩
  obtain rfl : h = h9 := e9.symm
  conv => whnf
  refine ⟨fun c3 => ?_, fun c3 => ?_⟩
  · have c3 : r1.toInt = 0 := c3
    have ka : ¬ (0 ≤ a.toInt ∧ a.toInt < (j_sz h x 1).toInt) := by
      rw [eR]
      rcases zr1 with ⟨-, q⟩ | ⟨q, -⟩
      · rw [q, z1] at c3; exact absurd c3 (by decide)
      · exact q
    conv => whnf
    exact ⟨⟨Nat.le_of_ble_eq_true rfl, Nat.le_of_ble_eq_true rfl⟩, ⟨Nat.le_of_ble_eq_true rfl, Nat.le_of_ble_eq_true rfl⟩, Or.inl ⟨rfl, fun z => ka z.1⟩, rfl⟩
  have c3 : ¬ r1.toInt = 0 := c3
  have ka : 0 ≤ a.toInt ∧ a.toInt < (j_sz h x 1).toInt := by
    rw [eR]
    rcases zr1 with ⟨q, -⟩ | ⟨-, q⟩
    · exact q
    · rw [q, z0] at c3; exact absurd rfl c3
  have ka' : 0 ≤ a.toInt ∧ a.toInt < (j_it h L1 2).toInt := by rw [← eR]; exact ka
  conv => whnf
  refine ⟨kx, rfl, _, _, _, _, _, _, c_isRunx hW e1, ⟨Nat.le_of_ble_eq_true rfl, Nat.le_of_ble_eq_true rfl, Nat.le_of_ble_eq_true rfl, Nat.le_of_ble_eq_true rfl⟩, fun _ _ z => False.elim z, ?_⟩
  rintro v9 h9 ⟨e9, r4, rfl, zr4⟩
  obtain rfl : h = h9 := e9.symm
  conv => whnf
  refine ⟨fun c6 => ?_, fun c6 => ?_⟩
  rotate_left
  · have c6 : ¬ ¬ r4.toInt = 0 := c6
    have kb : ¬ (0 ≤ b.toInt ∧ b.toInt < (j_sz h x 1).toInt) := by
      rw [eR]
      rcases zr4 with ⟨-, q⟩ | ⟨q, -⟩
      · rw [q, z1] at c6; exact absurd (by decide) c6
      · exact q
    conv => whnf
    exact ⟨⟨Nat.le_of_ble_eq_true rfl, Nat.le_of_ble_eq_true rfl⟩, ⟨Nat.le_of_ble_eq_true rfl, Nat.le_of_ble_eq_true rfl⟩, Or.inl ⟨rfl, fun z => kb z.2⟩, rfl⟩
  have c6 : ¬ r4.toInt = 0 := c6
  have kb : 0 ≤ b.toInt ∧ b.toInt < (j_sz h x 1).toInt := by
    rw [eR]
    rcases zr4 with ⟨q, -⟩ | ⟨-, q⟩
    · exact q
    · rw [q, z0] at c6; exact absurd rfl c6
  have kb' : 0 ≤ b.toInt ∧ b.toInt < (j_it h L1 2).toInt := by rw [← eR]; exact kb
  conv => whnf
  refine ⟨fun c9 => ?_, fun c9 => ?_⟩
  rotate_left
  · have c9 : ¬ ¬ a.toInt = b.toInt := c9
    conv => whnf
    exact ⟨⟨Nat.le_of_ble_eq_true rfl, Nat.le_of_ble_eq_true rfl⟩, ⟨Nat.le_of_ble_eq_true rfl, Nat.le_of_ble_eq_true rfl⟩, Or.inr ⟨rfl, ⟨ka, kb⟩, Decidable.not_not.mp c9⟩, rfl⟩
  have c9 : ¬ a.toInt = b.toInt := c9
  conv => whnf
  refine ⟨_, rfl, kx, fun o10 eo => ?_⟩
  obtain rfl : o10 = some L1 := eo.symm.trans e1
  conv => whnf
  refine ⟨l1.1, rfl, _, _, _, _, _, _, c_AL_get (h := h) l1 j_Sc.rf j_sf_ok ka'.1 ka'.2, ⟨Nat.le_of_ble_eq_true rfl, Nat.le_of_ble_eq_true rfl, Nat.le_of_ble_eq_true rfl, Nat.le_of_ble_eq_true rfl⟩, fun _ _ z => False.elim z, ?_⟩
  rintro v9 h9 ⟨e9, g11, rfl, kg11, xg11⟩
  obtain rfl : h = h9 := e9.symm
  conv => whnf
  refine ⟨Or.inr ⟨_, rfl, kg11⟩, ?_⟩
  conv => whnf
  refine ⟨_, rfl, kx, fun o12 eo => ?_⟩
  obtain rfl : o12 = some L1 := eo.symm.trans e1
  conv => whnf
  refine ⟨l1.1, rfl, _, _, _, _, _, _, c_AL_get (h := h) l1 j_Sc.rf j_sf_ok kb'.1 kb'.2, ⟨Nat.le_of_ble_eq_true rfl, Nat.le_of_ble_eq_true rfl, Nat.le_of_ble_eq_true rfl, Nat.le_of_ble_eq_true rfl⟩, fun _ _ z => False.elim z, ?_⟩
  rintro v9 h9 ⟨e9, g13, rfl, kg13, xg13⟩
  obtain rfl : h = h9 := e9.symm
  conv => whnf
  refine ⟨Or.inr ⟨_, rfl, kg13⟩, ?_⟩
  exact j_use hF (G66 g11 g13 ⟨ka, kb⟩ c9 (z_el_get e1 xg11) (z_el_get e1 xg13) kg11 kg13) (And.intro rfl (And.intro rfl (And.intro rfl (And.intro rfl (And.intro rfl trivial)))))
set_option maxHeartbeats 4000000 in
set_option maxRecDepth 20000 in
theorem c_Lw_swapx {h : j_H} {x out : Nat} {a b : Int32} (hW : j_WF h x) (I : z_I h x) (ko : j_kd h out = some (.inl 9)) : j_Ct 247 7 134 1 6 [j_r (some x), j_i a, j_i b, j_r (some out)] h (z_LQ x out h (q_swap (z_c h x) a b) (Int32.ofInt (z_dbn (n_swap (z_c h x) a b) : Int)) (n_swap (z_c h x) a b)) j_no := by
  refine j_intro km_247 (Nat.le_of_ble_eq_true rfl) ?_
  intro J hJ hF
  refine hJ [] 400 _ _ _ _ _ _ ?_
  conv => whnf
  refine ⟨hW.1, rfl, _, _, _, _, _, _, c_G_swapx hW I, ⟨Nat.le_of_ble_eq_true rfl, Nat.le_of_ble_eq_true rfl, Nat.le_of_ble_eq_true rfl, Nat.le_of_ble_eq_true rfl⟩, ?_, ?_⟩
  · rintro k9 h9 ⟨hk, e9⟩
    obtain rfl : h = h9 := e9.symm
    rcases hk with ⟨rfl, c1⟩ | ⟨rfl, c1, c2⟩
    · conv => whnf
      intro a9
      conv => whnf
      exact ⟨trivial, ⟨Nat.le_of_ble_eq_true rfl, Nat.le_of_ble_eq_true rfl⟩, z_LQ.no hW I (j_cqn c1) (by decide)⟩
    · conv => whnf
      intro a9
      conv => whnf
      exact ⟨trivial, ⟨Nat.le_of_ble_eq_true rfl, Nat.le_of_ble_eq_true rfl⟩, z_LQ.no hW I ((j_cqp c1).trans (j_cqn (fun z => z c2))) (by decide)⟩
  · rintro v9 h9 ⟨⟨c1, c2⟩, rfl, fs, I9, q9⟩
    conv => whnf
    refine ⟨_, rfl, ((fs.2.1.2 out (j_nn ko)).1).trans ko, ?_⟩
    conv => whnf
    exact ⟨trivial, ⟨Nat.le_of_ble_eq_true rfl, Nat.le_of_ble_eq_true rfl⟩, z_LQ.ok ko ((j_cqp c1).trans (j_cqp c2)) fs I9 q9⟩
