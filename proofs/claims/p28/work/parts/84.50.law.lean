/-! the law, method by method -/
section YC
variable {h : j_H} {x : Nat}
theorem y_ofRunq {a b : Int32} (w : y_W h x) (ha : 0 ≤ a.toInt ∧ a.toInt < (j_sz h x 1).toInt) (hb : 0 ≤ b.toInt ∧ b.toInt ≤ 7) : j_Ct 124 6 90 1 6 [j_r (some x), j_i a, j_i b] h (fun v h' => h' = h ∧ v = some (j_i (z_rq (z_c h x) a.toNatClampNeg b.toNatClampNeg))) j_no :=
  (c_G_ofRunx w.1 w.2.1).to (fun v h' p => ⟨p.2.2, p.2.1⟩) (fun k h' z => by
    rcases z.1 with ⟨-, z⟩ | ⟨-, -, z⟩
    · exact z ha
    · exact z hb)
theorem y_ofGrainq {a b : Int32} (w : y_W h x) (ha : 0 ≤ a.toInt ∧ a.toInt < (j_sz h x 0).toInt) (hb : 0 ≤ b.toInt ∧ b.toInt ≤ 9) : j_Ct 122 6 110 1 6 [j_r (some x), j_i a, j_i b] h (fun v h' => h' = h ∧ v = some (j_i (z_gq (z_c h x) a.toNatClampNeg b.toNatClampNeg))) j_no :=
  (c_G_ofGrainx w.1 w.2.1).to (fun v h' p => ⟨p.2.2, p.2.1⟩) (fun k h' z => by
    rcases z.1 with ⟨-, z⟩ | ⟨-, -, z⟩
    · exact z ha
    · exact z hb)
theorem y_ofPrintq {a b : Int32} (w : y_W h x) (ha : 0 ≤ a.toInt ∧ a.toInt < (j_sz h x 2).toInt) (hb : 0 ≤ b.toInt ∧ b.toInt ≤ 4) : j_Ct 123 6 90 1 6 [j_r (some x), j_i a, j_i b] h (fun v h' => h' = h ∧ v = some (j_i (z_pq (z_c h x) a.toNatClampNeg b.toNatClampNeg))) j_no :=
  (c_G_ofPrintx w.1 w.2.1).to (fun v h' p => ⟨p.2.2, p.2.1⟩) (fun k h' z => by
    rcases z.1 with ⟨-, z⟩ | ⟨-, -, z⟩
    · exact z ha
    · exact z hb)
theorem y_spanq {a b c : Int32} (w : y_W h x) (ha : 0 ≤ a.toInt ∧ a.toInt < (j_sz h x 0).toInt) (hb : b.toInt = -1 ∨ b.toInt = 0 ∨ b.toInt = 1) (hc : 0 ≤ c.toInt ∧ c.toInt ≤ 2) : j_Ct 137 6 90 1 6 [j_r (some x), j_i a, j_i b, j_i c] h (fun v h' => h' = h ∧ v = some (j_i (z_sq (z_c h x) a.toNatClampNeg b c.toNatClampNeg))) j_no :=
  (c_G_spanx w.1 w.2.1).to (fun v h' p => ⟨p.2.2, p.2.1⟩) (fun k h' z => by
    rcases z.1 with ⟨-, z⟩ | ⟨-, -, z⟩
    · exact z ⟨ha, hb⟩
    · exact z hc)
theorem y_lab {a : Int32} (w : y_W h x) (ha : 0 ≤ a.toInt ∧ a.toInt ≤ 10) : j_Ct 110 7 156 1 6 [j_r (some x), j_i a] h (fun v h' => y_Q x h h' ∧ v = some (j_i (z_lq (z_c h x) a.toNatClampNeg))) j_no :=
  (c_G_labx w.1 w.2.1).to (fun v h' p => ⟨y_Q.nx w p.2.2, p.2.1⟩) (fun k h' z => z.1.2 ha)
theorem y_digest (w : y_W h x) : j_Ct 92 8 176 0 0 [j_r (some x)] h (fun v h' => y_Q x h h' ∧ v = some (j_l (z_dig (z_c h x)))) j_no :=
  (c_G_digestx (h := h) w.1 w.2.1 w.2.2.1.1.2 j_Sc.rf).to (fun v h' p => ⟨y_Q.nx w p.2, p.1⟩) (fun k h' z => z)
theorem y_isSound (w : y_W h x) : j_Ct 108 7 156 0 0 [j_r (some x)] h (fun v h' => y_Q x h h' ∧ v = some (j_i (Int32.ofInt 1))) j_no :=
  (c_G_isSoundx w.1 w.2.1 w.2.2.1.1.2).to (fun v h' p => ⟨y_Q.nx w p.2, p.1⟩) (fun k h' z => z)
end YC
set_option maxHeartbeats 8000000 in
set_option maxRecDepth 20000 in
theorem c_y_below {h : j_H} {a b : Int32} (hb : 1 ≤ b.toInt) : j_Ct 168 0 0 0 0 [j_i a, j_i b] h (fun v h' => h' = h ∧ v = some (j_i (y_bl a b))) j_no := by
  refine j_intro km_168 (Nat.le_of_ble_eq_true rfl) ?_
  intro J hJ hF
  refine hJ [] 400 _ _ _ _ _ _ ?_
  conv => whnf
  refine ⟨fun z => absurd (j_e0.mp z) (by omega), ?_⟩
  conv => whnf
  exact ⟨trivial, ⟨Nat.le_of_ble_eq_true rfl, Nat.le_of_ble_eq_true rfl⟩, rfl, rfl⟩
set_option maxHeartbeats 8000000 in
set_option maxRecDepth 20000 in
theorem c_y_cell {h : j_H} {s t : Nat} {a : Int32} (ks : j_kd h s = some (.inr t)) (ht : t % 10 = 0) (ha : 0 ≤ a.toInt) (hl : j_ln h s ≤ 2560) : j_Ct 169 0 0 0 0 [j_r (some s), j_i a] h (fun v h' => h' = h ∧ ∃ r, v = some (j_i r)) j_no := by
  refine j_intro km_169 (Nat.le_of_ble_eq_true rfl) ?_
  intro J hJ hF
  refine hJ [] 400 _ _ _ _ _ _ ?_
  conv => whnf
  refine ⟨_, _, rfl, ks, ?_⟩
  have nl : (nI (j_ln h s)).toInt = (j_ln h s : Int) := nI_toInt (by omega)
  conv => whnf
  refine ⟨fun c => ?_, fun c => ?_⟩
  · conv => whnf
    exact ⟨trivial, ⟨Nat.le_of_ble_eq_true rfl, Nat.le_of_ble_eq_true rfl⟩, rfl, _, rfl⟩
  · have c : ¬ (nI (j_ln h s)).toInt ≤ a.toInt := c
    conv => whnf
    refine ⟨_, _, rfl, ks, ht, j_vp (by omega) (by omega), fun y ey => ?_⟩
    conv => whnf
    exact ⟨trivial, ⟨Nat.le_of_ble_eq_true rfl, Nat.le_of_ble_eq_true rfl⟩, rfl, _, rfl⟩
set_option maxHeartbeats 8000000 in
set_option maxRecDepth 20000 in
theorem c_y_runs {h : j_H} {x : Nat} (w : y_W h x) : j_Ct 173 7 112 21 126 [j_r (some x)] h (fun v h' => h' = h ∧ v = some (j_i (j_sz h x 1))) j_no := by
  refine j_intro km_173 (Nat.le_of_ble_eq_true rfl) ?_
  intro J hJ hF
  have bd := (y_bd w.1).2.1
  refine hJ [2] 400 _ _ _ _ _ _ ?_
  have L : ∀ (k : Nat) (v : Int32) (cn sn : Nat), cn ≤ v.toInt.toNat → sn ≤ 6 * v.toInt.toNat → 0 ≤ v.toInt → v.toInt ≤ (j_sz h x 1).toInt → (j_sz h x 1).toInt - v.toInt < (k : Int) → J 2 [some (j_r (some x)), some (j_i v), none] [] h cn sn := by
    intro k
    induction k with
    | zero => intro v cn sn hc hs h0 h1 hm; omega
    | succ k ih =>
      intro v cn sn hc hs h0 h1 hm
      refine hJ [2] 400 _ _ _ _ _ _ ?_
      conv => whnf
      refine ⟨w.1.1, rfl, _, _, _, _, _, _, c_G_ofRunx w.1 w.2.1, ⟨Nat.le_of_ble_eq_true rfl, Nat.le_of_ble_eq_true rfl, by (try dsimp only); omega, by (try dsimp only); omega⟩, ?_, ?_⟩
      · rintro k9 h9 ⟨hk, e9⟩
        obtain rfl : h = h9 := e9.symm
        rcases hk with ⟨rfl, c1⟩ | ⟨rfl, c1, c2⟩
        · conv => whnf
          intro a9
          conv => whnf
          exact ⟨trivial, ⟨by (try dsimp only); omega, by (try dsimp only); omega⟩, rfl, congrArg (fun r => some (j_i r)) (Int32.toInt_inj.mp (by omega))⟩
        · exact absurd (show 0 ≤ (Int32.ofInt 0).toInt ∧ (Int32.ofInt 0).toInt ≤ 7 by decide) c2
      · rintro v9 h9 ⟨⟨c1, c2⟩, rfl, e9⟩
        obtain rfl : h = h9 := e9.symm
        have t : (v + Int32.ofInt 1).toInt = v.toInt + 1 := j_inc1 (by omega)
        conv => whnf
        exact j_use hF (ih (v + Int32.ofInt 1) _ _ (by (try dsimp only); omega) (by (try dsimp only); omega) (by omega) (by omega) (by omega)) (And.intro rfl (And.intro rfl trivial))
  exact j_use hF (L 100 (Int32.ofInt 0) _ _ (by decide) (by decide) (by decide) (by rw [show (Int32.ofInt 0).toInt = 0 by decide]; omega) (by rw [show (Int32.ofInt 0).toInt = 0 by decide]; omega)) (And.intro rfl (And.intro rfl trivial))
/-- what a doing leaves: the state, by what was done -/
def y_D (x : Nat) (h h' : j_H) (N : j_Z) : Prop := y_W h' x ∧ z_eq (z_c h' x) N ∧ y_A h h'
theorem y_D.of {x : Nat} {h h' : j_H} {N : j_Z} (w : y_W h x) (f : j_Fs x h h') (I : z_I h' x) (e : z_eq (z_c h' x) N) (o : y_ok N) (g : 1 ≤ (N.1 0).toInt) : y_D x h h' N :=
  ⟨⟨f.1, I, o.eq e, by show 1 ≤ ((z_c h' x).1 0).toInt; rw [e.1 0 (by decide)]; exact g⟩, e, y_A.fs w.1 f⟩
set_option maxHeartbeats 8000000 in
set_option maxRecDepth 20000 in
theorem c_y_ran {h : j_H} {x : Nat} {a : Int32} (w : y_W h x) : j_Ct 172 8 187 4 63 [j_r (some x), j_i a] h (fun v h' => v = none ∧ ∃ h1 b c d e, y_Q x h h1 ∧ q_run (z_c h1 x).1 b c d e = 0 ∧ y_D x h1 h' (n_runF (z_c h1 x) b c d e)) (fun k h' => k = 1 ∧ 20 ≤ (j_sz h x 1).toInt ∧ y_Q x h h') := by
  refine j_intro km_172 (Nat.le_of_ble_eq_true rfl) ?_
  intro J hJ hF
  have s5 := w.2.2.1.1.1.2.1
  refine hJ [] 400 _ _ _ _ _ _ ?_
  conv => whnf
  refine ⟨w.1.1, rfl, _, _, _, _, _, _, y_lab w (by decide), ⟨Nat.le_of_ble_eq_true rfl, Nat.le_of_ble_eq_true rfl, by (try dsimp only); omega, by (try dsimp only); omega⟩, fun _ _ z => False.elim z, ?_⟩
  rintro o9 h1 ⟨q1, er9⟩
  obtain ⟨r1, hr1⟩ : ∃ r, r = (z_c h x).1 5 := ⟨_, rfl⟩
  obtain rfl : o9 = some (j_i r1) := er9.trans (congrArg (fun r => some (j_i r)) (by rw [hr1]; rfl))
  clear er9
  rw [← hr1] at s5
  conv => whnf
  refine ⟨q1.1.1.1, rfl, _, _, _, _, _, _, y_lab q1.1 (by decide), ⟨Nat.le_of_ble_eq_true rfl, Nat.le_of_ble_eq_true rfl, by (try dsimp only); omega, by (try dsimp only); omega⟩, fun _ _ z => False.elim z, ?_⟩
  rintro o9 h2 ⟨q2, er9⟩
  obtain ⟨r2, hr2⟩ : ∃ r, r = j_sz h x 0 := ⟨_, rfl⟩
  obtain rfl : o9 = some (j_i r2) := er9.trans (congrArg (fun r => some (j_i r)) (by rw [hr2]; exact (show (z_c h1 x).1 0 = (z_c h x).1 0 from q1.2.1.1 0 (by decide))))
  clear er9
  have w2 : y_W h2 x := q2.1
  have q := q1.tr q2
  have e5 : (z_c h2 x).1 5 = r1 := (q.2.1.1 5 (by decide)).trans hr1.symm
  have e0 : (z_c h2 x).1 0 = r2 := (q.2.1.1 0 (by decide)).trans hr2.symm
  have e1 : (z_c h2 x).1 1 = j_sz h x 1 := q.2.1.1 1 (by decide)
  have g1 : 1 ≤ r2.toInt := by rw [hr2]; exact w.2.2.2
  conv => whnf
  refine ⟨rfl, _, _, _, _, _, _, c_y_below (by omega), ⟨Nat.le_of_ble_eq_true rfl, Nat.le_of_ble_eq_true rfl, by (try dsimp only); omega, by (try dsimp only); omega⟩, fun _ _ z => False.elim z, ?_⟩
  rintro o9 h9 ⟨e9, er9⟩
  obtain ⟨p1, hp1⟩ : ∃ r, r = y_bl (a) (r2) := ⟨_, rfl⟩
  obtain rfl : o9 = some (j_i p1) := er9.trans (congrArg (fun r => some (j_i r)) hp1.symm)
  obtain rfl : h2 = h9 := e9.symm
  clear er9 e9
  have bp1 := y_blb (v := a) (n := r2) (by omega)
  rw [← hp1] at bp1
  have z2 : (Int32.ofInt 2).toInt = 2 := by decide
  have z1 : (Int32.ofInt 1).toInt = 1 := by decide
  conv => whnf
  refine ⟨rfl, _, _, _, _, _, _, c_y_below (by decide), ⟨Nat.le_of_ble_eq_true rfl, Nat.le_of_ble_eq_true rfl, by (try dsimp only); omega, by (try dsimp only); omega⟩, fun _ _ z => False.elim z, ?_⟩
  rintro o9 h9 ⟨e9, er9⟩
  obtain ⟨p2, hp2⟩ : ∃ r, r = y_bl (a >>> (Int32.ofInt 4 &&& 31)) (Int32.ofInt 2) := ⟨_, rfl⟩
  obtain rfl : o9 = some (j_i p2) := er9.trans (congrArg (fun r => some (j_i r)) hp2.symm)
  obtain rfl : h2 = h9 := e9.symm
  clear er9 e9
  have bp2 := y_blb (v := a >>> (Int32.ofInt 4 &&& 31)) (n := Int32.ofInt 2) (by decide)
  rw [← hp2] at bp2
  have m2 : (Int32.ofInt 2 * r1).toInt = 2 * r1.toInt := j_dbl (by omega) (by omega)
  have m3 : (Int32.ofInt 2 * r1 + Int32.ofInt 1).toInt = 2 * r1.toInt + 1 := j_inc1 (by omega) |>.trans (by omega)
  conv => whnf
  refine ⟨rfl, _, _, _, _, _, _, c_y_below (by omega), ⟨Nat.le_of_ble_eq_true rfl, Nat.le_of_ble_eq_true rfl, by (try dsimp only); omega, by (try dsimp only); omega⟩, fun _ _ z => False.elim z, ?_⟩
  rintro o9 h9 ⟨e9, er9⟩
  obtain ⟨p3, hp3⟩ : ∃ r, r = y_bl (a >>> (Int32.ofInt 2 &&& 31)) (Int32.ofInt 2 * r1 + Int32.ofInt 1) := ⟨_, rfl⟩
  obtain rfl : o9 = some (j_i p3) := er9.trans (congrArg (fun r => some (j_i r)) hp3.symm)
  obtain rfl : h2 = h9 := e9.symm
  clear er9 e9
  have bp3 := y_blb (v := a >>> (Int32.ofInt 2 &&& 31)) (n := Int32.ofInt 2 * r1 + Int32.ofInt 1) (by omega)
  rw [← hp3] at bp3
  conv => whnf
  refine ⟨rfl, _, _, _, _, _, _, c_y_below (by omega), ⟨Nat.le_of_ble_eq_true rfl, Nat.le_of_ble_eq_true rfl, by (try dsimp only); omega, by (try dsimp only); omega⟩, fun _ _ z => False.elim z, ?_⟩
  rintro o9 h9 ⟨e9, er9⟩
  obtain ⟨p4, hp4⟩ : ∃ r, r = y_bl (a >>> (Int32.ofInt 5 &&& 31)) (Int32.ofInt 2 * r1 + Int32.ofInt 1) := ⟨_, rfl⟩
  obtain rfl : o9 = some (j_i p4) := er9.trans (congrArg (fun r => some (j_i r)) hp4.symm)
  obtain rfl : h2 = h9 := e9.symm
  clear er9 e9
  have bp4 := y_blb (v := a >>> (Int32.ofInt 5 &&& 31)) (n := Int32.ofInt 2 * r1 + Int32.ofInt 1) (by omega)
  rw [← hp4] at bp4
  have e3 : (p3 - r1).toInt = p3.toInt - r1.toInt := j_subI (by omega) (by omega)
  have e4 : (p4 - r1).toInt = p4.toInt - r1.toInt := j_subI (by omega) (by omega)
  have en : (-r1).toInt = -r1.toInt := by
    rw [Int32.toInt_neg, Int.bmod_def]
    omega
  have okr : j_okr (z_c h2 x).1 p1 p2 := ⟨⟨bp1.1, by rw [e0]; exact bp1.2⟩, by omega⟩
  have oke : j_oke (z_c h2 x).1 (p3 - r1) (p4 - r1) := by
    unfold j_oke
    rw [e5]
    omega
  have sa : ∀ k, j_ax h2 x k = (z_c h2 x).1 k ∨ True := fun _ => Or.inr trivial
  conv => whnf
  refine ⟨w2.1.1, rfl, _, _, _, _, _, _, c_G_runzz w2.1 w2.2.1 w2.2.2.1.1.1, ⟨Nat.le_of_ble_eq_true rfl, Nat.le_of_ble_eq_true rfl, by (try dsimp only); omega, by (try dsimp only); omega⟩, ?_, ?_⟩
  · rintro k9 h9 ⟨hk, e9⟩
    obtain rfl : h2 = h9 := e9.symm
    rcases hk with ⟨rfl, c1⟩ | ⟨rfl, c1, c2⟩ | ⟨rfl, c1, c2, c3⟩
    · exact absurd okr c1
    · exact absurd oke c2
    · refine ⟨rfl, ?_, q⟩
      rw [← e1]
      have c3 : ¬ ((z_c h2 x).1 1).toInt < 20 := c3
      omega
  · rintro v9 h9 ⟨⟨c1, c2, c3⟩, rfl, fs, I9, e9⟩
    have hq : q_run (z_c h2 x).1 p1 p2 (p3 - r1) (p4 - r1) = 0 := (j_cqp c1).trans ((j_cqp c2).trans (j_cqp c3))
    conv => whnf
    exact ⟨rfl, ⟨by (try dsimp only); omega, by (try dsimp only); omega⟩, rfl, h2, _, _, _, _, q, hq, y_D.of w2 fs I9 e9 (w2.2.2.1.run hq) (by show 1 ≤ ((z_c h2 x).1 0).toInt; rw [e0]; exact g1)⟩
