/-- what was done, told by v (which) and u (which clock) -/
def y_sD (C N : j_Z) (v u : Int32) : Prop := (C.1 0).toInt ≤ (N.1 0).toInt ∧ (¬ v.toInt = 8 → ¬ v.toInt = 5 → ∀ P, y_J C P → y_J N P) ∧
  (v.toInt = 5 → N.1 6 = C.1 6 ∧ ∀ P Q : Nat → Int, y_J C P → (∀ i, i < 2 → i ≠ u.toNatClampNeg → Q i = P i) → Q u.toNatClampNeg = (C.1 6).toInt + 1 → y_J N Q) ∧ (v.toInt = 7 → ∃ w, N = n_withdraw C w)
theorem y_max {r : Int32} : 1 ≤ (if Int32.ofInt 1 < r then r else Int32.ofInt 1).toInt := by
  have e : (Int32.ofInt 1).toInt = 1 := by decide
  by_cases q : Int32.ofInt 1 < r
  · rw [if_pos q]
    rw [Int32.lt_iff_toInt_lt, e] at q
    omega
  · rw [if_neg q, e]
    omega
theorem y_inc0 {x : Int32} (h0 : 0 ≤ x.toInt) (h1 : x.toInt ≤ 100) : x.toInt ≤ (x + Int32.ofInt 1).toInt := by
  rw [j_inc1 (by omega)]
  omega
set_option maxHeartbeats 8000000 in
set_option maxRecDepth 20000 in
theorem c_y_isDone {h : j_H} {x : Nat} {a : Int32} (w : y_W h x) : j_Ct 170 9 209 30 240 [j_r (some x), j_i a] h (fun v h' => ∃ r, v = some (j_i r) ∧ ((r = Int32.ofInt 0 ∧ y_Q x h h') ∨ (r = Int32.ofInt 1 ∧ ∃ h1 N, y_Q x h h1 ∧ y_D x h1 h' N ∧ y_sD (z_c h1 x) N (y_bl a ((Int8.ofInt 14).toInt32)) (y_bl (a >>> (Int32.ofInt 4 &&& 31)) (Int32.ofInt 2))))) j_no := by
  refine j_intro km_170 (Nat.le_of_ble_eq_true rfl) ?_
  intro J hJ hF
  have bd := y_bd w.1
  refine hJ [] 400 _ _ _ _ _ _ ?_
  conv => whnf
  refine ⟨rfl, _, _, _, _, _, _, c_y_runs w, ⟨Nat.le_of_ble_eq_true rfl, Nat.le_of_ble_eq_true rfl, by (try dsimp only); omega, by (try dsimp only); omega⟩, fun _ _ z => False.elim z, ?_⟩
  rintro v9 h9 ⟨e9, rfl⟩
  obtain rfl : h = h9 := e9.symm
  clear e9
  conv => whnf
  refine ⟨⟨Nat.le_of_ble_eq_true rfl, Nat.le_of_ble_eq_true rfl, by (try dsimp only); omega, by (try dsimp only); omega⟩, ?_⟩
  have hmx := y_max (r := j_sz h x 1)
  generalize (if Int32.ofInt 1 < j_sz h x 1 then j_sz h x 1 else Int32.ofInt 1) = mx at hmx ⊢
  conv => whnf
  refine ⟨rfl, _, _, _, _, _, _, c_y_below (by decide), ⟨Nat.le_of_ble_eq_true rfl, Nat.le_of_ble_eq_true rfl, by (try dsimp only); omega, by (try dsimp only); omega⟩, fun _ _ z => False.elim z, ?_⟩
  rintro v9 h9 ⟨e9, rfl⟩
  obtain rfl : h = h9 := e9.symm
  clear e9
  have bv := y_blb (v := a) (n := Int32.ofInt 14) (by decide)
  have z14 : ((Int8.ofInt 14).toInt32).toInt = 14 := by decide
  obtain ⟨v, hv0⟩ : ∃ v, v = y_bl a ((Int8.ofInt 14).toInt32) := ⟨_, rfl⟩
  conv => whnf
  refine ⟨And.intro (fun hv => ?_) (And.intro (fun hv => ?_) (And.intro (fun hv => ?_) (And.intro (fun hv => ?_) (And.intro (fun hv => ?_) (And.intro (fun hv => ?_) (And.intro (fun hv => ?_) (And.intro (fun hv => ?_) (And.intro (fun hv => ?_) (And.intro (fun hv => ?_) (trivial)))))))))), fun hv => ?_⟩
  · have hv : (y_bl a ((Int8.ofInt 14).toInt32)).toInt = 0 := hv
    conv => whnf
    refine ⟨rfl, _, _, _, _, _, _, c_y_below (by decide), ⟨Nat.le_of_ble_eq_true rfl, Nat.le_of_ble_eq_true rfl, by (try dsimp only); omega, by (try dsimp only); omega⟩, fun _ _ z => False.elim z, ?_⟩
    rintro o9 h9 ⟨e9, er9⟩
    obtain ⟨p1, hp1⟩ : ∃ r, r = y_bl (a >>> (Int32.ofInt 4 &&& 31)) ((Int8.ofInt 9).toInt32) := ⟨_, rfl⟩
    obtain rfl : o9 = some (j_i p1) := er9.trans (congrArg (fun r => some (j_i r)) hp1.symm)
    obtain rfl : h = h9 := e9.symm
    clear er9 e9
    have bp1 := y_blb (v := a >>> (Int32.ofInt 4 &&& 31)) (n := (Int8.ofInt 9).toInt32) (by decide)
    rw [← hp1] at bp1
    conv => whnf
    refine ⟨w.1.1, rfl, _, _, _, _, _, _, c_G_passz w.1 w.2.1 w.2.2.1.1.1, ⟨Nat.le_of_ble_eq_true rfl, Nat.le_of_ble_eq_true rfl, by (try dsimp only); omega, by (try dsimp only); omega⟩, ?_, ?_⟩
    · rintro k9 h9 ⟨hk, e9⟩
      obtain rfl : h = h9 := e9.symm
      rcases hk with ⟨rfl, -⟩ | ⟨rfl, -⟩
      · conv => whnf
        intro a9
        conv => whnf
        exact ⟨Or.inl rfl, ⟨by (try dsimp only); omega, by (try dsimp only); omega⟩, _, rfl, Or.inl ⟨rfl, (y_Q.rf w)⟩⟩
      · conv => whnf
        intro a9
        conv => whnf
        exact ⟨Or.inl rfl, ⟨by (try dsimp only); omega, by (try dsimp only); omega⟩, _, rfl, Or.inl ⟨rfl, (y_Q.rf w)⟩⟩
    · rintro v9 h9 ⟨⟨c1, c2⟩, rfl, fs, I9, e9⟩
      conv => whnf
      exact ⟨Or.inr rfl, ⟨by (try dsimp only); omega, by (try dsimp only); omega⟩, _, rfl, Or.inr ⟨rfl, h, _, (y_Q.rf w), y_D.of w fs I9 e9 (y_ok.pass w.2.2.1 ((j_cqp c1).trans (j_cqp c2))) ((show 1 ≤ ((z_c h x).1 0).toInt from w.2.2.2)), ⟨Int.le_refl _, fun n8 n5 P hP => hP.pass w.2.2.1 ((j_cqp c1).trans (j_cqp c2)), fun z => absurd z (by omega), fun z => absurd z (by omega)⟩⟩⟩
  · have hv : (y_bl a ((Int8.ofInt 14).toInt32)).toInt = 1 := hv
    conv => whnf
    refine ⟨rfl, _, _, _, _, _, _, c_y_below (by decide), ⟨Nat.le_of_ble_eq_true rfl, Nat.le_of_ble_eq_true rfl, by (try dsimp only); omega, by (try dsimp only); omega⟩, fun _ _ z => False.elim z, ?_⟩
    rintro o9 h9 ⟨e9, er9⟩
    obtain ⟨p1, hp1⟩ : ∃ r, r = y_bl (a >>> (Int32.ofInt 4 &&& 31)) ((Int8.ofInt 9).toInt32) := ⟨_, rfl⟩
    obtain rfl : o9 = some (j_i p1) := er9.trans (congrArg (fun r => some (j_i r)) hp1.symm)
    obtain rfl : h = h9 := e9.symm
    clear er9 e9
    have bp1 := y_blb (v := a >>> (Int32.ofInt 4 &&& 31)) (n := (Int8.ofInt 9).toInt32) (by decide)
    rw [← hp1] at bp1
    conv => whnf
    refine ⟨w.1.1, rfl, _, _, _, _, _, _, c_G_passz w.1 w.2.1 w.2.2.1.1.1, ⟨Nat.le_of_ble_eq_true rfl, Nat.le_of_ble_eq_true rfl, by (try dsimp only); omega, by (try dsimp only); omega⟩, ?_, ?_⟩
    · rintro k9 h9 ⟨hk, e9⟩
      obtain rfl : h = h9 := e9.symm
      rcases hk with ⟨rfl, -⟩ | ⟨rfl, -⟩
      · conv => whnf
        intro a9
        conv => whnf
        exact ⟨Or.inl rfl, ⟨by (try dsimp only); omega, by (try dsimp only); omega⟩, _, rfl, Or.inl ⟨rfl, (y_Q.rf w)⟩⟩
      · conv => whnf
        intro a9
        conv => whnf
        exact ⟨Or.inl rfl, ⟨by (try dsimp only); omega, by (try dsimp only); omega⟩, _, rfl, Or.inl ⟨rfl, (y_Q.rf w)⟩⟩
    · rintro v9 h9 ⟨⟨c1, c2⟩, rfl, fs, I9, e9⟩
      conv => whnf
      exact ⟨Or.inr rfl, ⟨by (try dsimp only); omega, by (try dsimp only); omega⟩, _, rfl, Or.inr ⟨rfl, h, _, (y_Q.rf w), y_D.of w fs I9 e9 (y_ok.pass w.2.2.1 ((j_cqp c1).trans (j_cqp c2))) ((show 1 ≤ ((z_c h x).1 0).toInt from w.2.2.2)), ⟨Int.le_refl _, fun n8 n5 P hP => hP.pass w.2.2.1 ((j_cqp c1).trans (j_cqp c2)), fun z => absurd z (by omega), fun z => absurd z (by omega)⟩⟩⟩
  · have hv : (y_bl a ((Int8.ofInt 14).toInt32)).toInt = 2 := hv
    conv => whnf
    refine ⟨rfl, _, _, _, _, _, _, c_y_below (by decide), ⟨Nat.le_of_ble_eq_true rfl, Nat.le_of_ble_eq_true rfl, by (try dsimp only); omega, by (try dsimp only); omega⟩, fun _ _ z => False.elim z, ?_⟩
    rintro o9 h9 ⟨e9, er9⟩
    obtain ⟨p1, hp1⟩ : ∃ r, r = y_bl (a >>> (Int32.ofInt 4 &&& 31)) ((Int16.ofInt 500).toInt32) := ⟨_, rfl⟩
    obtain rfl : o9 = some (j_i p1) := er9.trans (congrArg (fun r => some (j_i r)) hp1.symm)
    obtain rfl : h = h9 := e9.symm
    clear er9 e9
    have bp1 := y_blb (v := a >>> (Int32.ofInt 4 &&& 31)) (n := (Int16.ofInt 500).toInt32) (by decide)
    rw [← hp1] at bp1
    conv => whnf
    refine ⟨rfl, _, _, _, _, _, _, c_y_below (by decide), ⟨Nat.le_of_ble_eq_true rfl, Nat.le_of_ble_eq_true rfl, by (try dsimp only); omega, by (try dsimp only); omega⟩, fun _ _ z => False.elim z, ?_⟩
    rintro o9 h9 ⟨e9, er9⟩
    obtain ⟨p2, hp2⟩ : ∃ r, r = y_bl (a >>> ((Int8.ofInt 6).toInt32 &&& 31)) ((Int16.ofInt 500).toInt32) := ⟨_, rfl⟩
    obtain rfl : o9 = some (j_i p2) := er9.trans (congrArg (fun r => some (j_i r)) hp2.symm)
    obtain rfl : h = h9 := e9.symm
    clear er9 e9
    have bp2 := y_blb (v := a >>> ((Int8.ofInt 6).toInt32 &&& 31)) (n := (Int16.ofInt 500).toInt32) (by decide)
    rw [← hp2] at bp2
    conv => whnf
    refine ⟨rfl, _, _, _, _, _, _, c_y_below (by decide), ⟨Nat.le_of_ble_eq_true rfl, Nat.le_of_ble_eq_true rfl, by (try dsimp only); omega, by (try dsimp only); omega⟩, fun _ _ z => False.elim z, ?_⟩
    rintro o9 h9 ⟨e9, er9⟩
    obtain ⟨p3, hp3⟩ : ∃ r, r = y_bl (a >>> ((Int8.ofInt 8).toInt32 &&& 31)) (Int32.ofInt 5) := ⟨_, rfl⟩
    obtain rfl : o9 = some (j_i p3) := er9.trans (congrArg (fun r => some (j_i r)) hp3.symm)
    obtain rfl : h = h9 := e9.symm
    clear er9 e9
    have bp3 := y_blb (v := a >>> ((Int8.ofInt 8).toInt32 &&& 31)) (n := Int32.ofInt 5) (by decide)
    rw [← hp3] at bp3
    conv => whnf
    refine ⟨w.1.1, rfl, _, _, _, _, _, _, c_G_grainz w.1 w.2.1, ⟨Nat.le_of_ble_eq_true rfl, Nat.le_of_ble_eq_true rfl, by (try dsimp only); omega, by (try dsimp only); omega⟩, ?_, ?_⟩
    · rintro k9 h9 ⟨hk, e9⟩
      obtain rfl : h = h9 := e9.symm
      rcases hk with ⟨rfl, -⟩ | ⟨rfl, -⟩
      · conv => whnf
        intro a9
        conv => whnf
        exact ⟨Or.inl rfl, ⟨by (try dsimp only); omega, by (try dsimp only); omega⟩, _, rfl, Or.inl ⟨rfl, (y_Q.rf w)⟩⟩
      · conv => whnf
        intro a9
        conv => whnf
        exact ⟨Or.inl rfl, ⟨by (try dsimp only); omega, by (try dsimp only); omega⟩, _, rfl, Or.inl ⟨rfl, (y_Q.rf w)⟩⟩
    · rintro v9 h9 ⟨⟨c1, c2⟩, rfl, fs, I9, e9⟩
      conv => whnf
      exact ⟨Or.inr rfl, ⟨by (try dsimp only); omega, by (try dsimp only); omega⟩, _, rfl, Or.inr ⟨rfl, h, _, (y_Q.rf w), y_D.of w fs I9 e9 (y_ok.grain w.2.2.1 bd.1.1 ((j_cqp c1).trans (j_cqp c2))) (Int.le_trans w.2.2.2 (y_inc0 bd.1.1 (by omega))), ⟨y_inc0 bd.1.1 (by show (j_sz h x 0).toInt ≤ 100; omega), fun n8 n5 P hP => hP.grain (y_Lz w.2.1) bd.1.1 ((j_cqp c1).trans (j_cqp c2)), fun z => absurd z (by omega), fun z => absurd z (by omega)⟩⟩⟩
  · have hv : (y_bl a ((Int8.ofInt 14).toInt32)).toInt = 3 := hv
    conv => whnf
    refine ⟨w.1.1, rfl, _, _, _, _, _, _, y_lab w (by decide), ⟨Nat.le_of_ble_eq_true rfl, Nat.le_of_ble_eq_true rfl, by (try dsimp only); omega, by (try dsimp only); omega⟩, fun _ _ z => False.elim z, ?_⟩
    rintro o9 h1 ⟨q1, er9⟩
    obtain ⟨r1, hr1⟩ : ∃ r, r = j_sz h x 0 := ⟨_, rfl⟩
    obtain rfl : o9 = some (j_i r1) := er9.trans (congrArg (fun r => some (j_i r)) (by rw [hr1]; rfl))
    clear er9
    have g1 : 1 ≤ r1.toInt := by rw [hr1]; exact w.2.2.2
    conv => whnf
    refine ⟨rfl, _, _, _, _, _, _, c_y_below (by omega), ⟨Nat.le_of_ble_eq_true rfl, Nat.le_of_ble_eq_true rfl, by (try dsimp only); omega, by (try dsimp only); omega⟩, fun _ _ z => False.elim z, ?_⟩
    rintro o9 h9 ⟨e9, er9⟩
    obtain ⟨p1, hp1⟩ : ∃ r, r = y_bl (a >>> (Int32.ofInt 4 &&& 31)) (r1) := ⟨_, rfl⟩
    obtain rfl : o9 = some (j_i p1) := er9.trans (congrArg (fun r => some (j_i r)) hp1.symm)
    obtain rfl : h1 = h9 := e9.symm
    clear er9 e9
    have bp1 := y_blb (v := a >>> (Int32.ofInt 4 &&& 31)) (n := r1) (by omega)
    rw [← hp1] at bp1
    conv => whnf
    refine ⟨rfl, _, _, _, _, _, _, c_y_below (by decide), ⟨Nat.le_of_ble_eq_true rfl, Nat.le_of_ble_eq_true rfl, by (try dsimp only); omega, by (try dsimp only); omega⟩, fun _ _ z => False.elim z, ?_⟩
    rintro o9 h9 ⟨e9, er9⟩
    obtain ⟨p2, hp2⟩ : ∃ r, r = y_bl (a >>> ((Int8.ofInt 7).toInt32 &&& 31)) ((Int8.ofInt 101).toInt32) := ⟨_, rfl⟩
    obtain rfl : o9 = some (j_i p2) := er9.trans (congrArg (fun r => some (j_i r)) hp2.symm)
    obtain rfl : h1 = h9 := e9.symm
    clear er9 e9
    have bp2 := y_blb (v := a >>> ((Int8.ofInt 7).toInt32 &&& 31)) (n := (Int8.ofInt 101).toInt32) (by decide)
    rw [← hp2] at bp2
    conv => whnf
    refine ⟨q1.1.1.1, rfl, _, _, _, _, _, _, c_G_heatx q1.1.1 q1.1.2.1, ⟨Nat.le_of_ble_eq_true rfl, Nat.le_of_ble_eq_true rfl, by (try dsimp only); omega, by (try dsimp only); omega⟩, ?_, ?_⟩
    · rintro k9 h9 ⟨hk, e9⟩
      obtain rfl : h1 = h9 := e9.symm
      rcases hk with ⟨rfl, -⟩ | ⟨rfl, -⟩
      · conv => whnf
        intro a9
        conv => whnf
        exact ⟨Or.inl rfl, ⟨by (try dsimp only); omega, by (try dsimp only); omega⟩, _, rfl, Or.inl ⟨rfl, q1⟩⟩
      · conv => whnf
        intro a9
        conv => whnf
        exact ⟨Or.inl rfl, ⟨by (try dsimp only); omega, by (try dsimp only); omega⟩, _, rfl, Or.inl ⟨rfl, q1⟩⟩
    · rintro v9 h9 ⟨⟨c1, c2⟩, rfl, fs, I9, e9⟩
      conv => whnf
      exact ⟨Or.inr rfl, ⟨by (try dsimp only); omega, by (try dsimp only); omega⟩, _, rfl, Or.inr ⟨rfl, h1, _, q1, y_D.of q1.1 fs I9 e9 (y_ok.touch (by decide) q1.1.2.2.1 ((j_cqp c1).trans (j_cqp c2))) (q1.1.2.2.2), ⟨Int.le_refl _, fun n8 n5 P hP => hP.touch, fun z => absurd z (by omega), fun z => absurd z (by omega)⟩⟩⟩
  · have hv : (y_bl a ((Int8.ofInt 14).toInt32)).toInt = 4 := hv
    conv => whnf
    refine ⟨w.1.1, rfl, _, _, _, _, _, _, y_lab w (by decide), ⟨Nat.le_of_ble_eq_true rfl, Nat.le_of_ble_eq_true rfl, by (try dsimp only); omega, by (try dsimp only); omega⟩, fun _ _ z => False.elim z, ?_⟩
    rintro o9 h1 ⟨q1, er9⟩
    obtain ⟨r1, hr1⟩ : ∃ r, r = j_sz h x 0 := ⟨_, rfl⟩
    obtain rfl : o9 = some (j_i r1) := er9.trans (congrArg (fun r => some (j_i r)) (by rw [hr1]; rfl))
    clear er9
    have g1 : 1 ≤ r1.toInt := by rw [hr1]; exact w.2.2.2
    conv => whnf
    refine ⟨rfl, _, _, _, _, _, _, c_y_below (by omega), ⟨Nat.le_of_ble_eq_true rfl, Nat.le_of_ble_eq_true rfl, by (try dsimp only); omega, by (try dsimp only); omega⟩, fun _ _ z => False.elim z, ?_⟩
    rintro o9 h9 ⟨e9, er9⟩
    obtain ⟨p1, hp1⟩ : ∃ r, r = y_bl (a >>> (Int32.ofInt 4 &&& 31)) (r1) := ⟨_, rfl⟩
    obtain rfl : o9 = some (j_i p1) := er9.trans (congrArg (fun r => some (j_i r)) hp1.symm)
    obtain rfl : h1 = h9 := e9.symm
    clear er9 e9
    have bp1 := y_blb (v := a >>> (Int32.ofInt 4 &&& 31)) (n := r1) (by omega)
    rw [← hp1] at bp1
    conv => whnf
    refine ⟨rfl, _, _, _, _, _, _, c_y_below (by decide), ⟨Nat.le_of_ble_eq_true rfl, Nat.le_of_ble_eq_true rfl, by (try dsimp only); omega, by (try dsimp only); omega⟩, fun _ _ z => False.elim z, ?_⟩
    rintro o9 h9 ⟨e9, er9⟩
    obtain ⟨p2, hp2⟩ : ∃ r, r = y_bl (a >>> ((Int8.ofInt 7).toInt32 &&& 31)) ((Int8.ofInt 101).toInt32) := ⟨_, rfl⟩
    obtain rfl : o9 = some (j_i p2) := er9.trans (congrArg (fun r => some (j_i r)) hp2.symm)
    obtain rfl : h1 = h9 := e9.symm
    clear er9 e9
    have bp2 := y_blb (v := a >>> ((Int8.ofInt 7).toInt32 &&& 31)) (n := (Int8.ofInt 101).toInt32) (by decide)
    rw [← hp2] at bp2
    conv => whnf
    refine ⟨q1.1.1.1, rfl, _, _, _, _, _, _, c_G_washx q1.1.1 q1.1.2.1, ⟨Nat.le_of_ble_eq_true rfl, Nat.le_of_ble_eq_true rfl, by (try dsimp only); omega, by (try dsimp only); omega⟩, ?_, ?_⟩
    · rintro k9 h9 ⟨hk, e9⟩
      obtain rfl : h1 = h9 := e9.symm
      rcases hk with ⟨rfl, -⟩ | ⟨rfl, -⟩
      · conv => whnf
        intro a9
        conv => whnf
        exact ⟨Or.inl rfl, ⟨by (try dsimp only); omega, by (try dsimp only); omega⟩, _, rfl, Or.inl ⟨rfl, q1⟩⟩
      · conv => whnf
        intro a9
        conv => whnf
        exact ⟨Or.inl rfl, ⟨by (try dsimp only); omega, by (try dsimp only); omega⟩, _, rfl, Or.inl ⟨rfl, q1⟩⟩
    · rintro v9 h9 ⟨⟨c1, c2⟩, rfl, fs, I9, e9⟩
      conv => whnf
      exact ⟨Or.inr rfl, ⟨by (try dsimp only); omega, by (try dsimp only); omega⟩, _, rfl, Or.inr ⟨rfl, h1, _, q1, y_D.of q1.1 fs I9 e9 (y_ok.touch (by decide) q1.1.2.2.1 ((j_cqp c1).trans (j_cqp c2))) (q1.1.2.2.2), ⟨Int.le_refl _, fun n8 n5 P hP => hP.touch, fun z => absurd z (by omega), fun z => absurd z (by omega)⟩⟩⟩
  · have hv : (y_bl a ((Int8.ofInt 14).toInt32)).toInt = 5 := hv
    conv => whnf
    refine ⟨rfl, _, _, _, _, _, _, c_y_below (by decide), ⟨Nat.le_of_ble_eq_true rfl, Nat.le_of_ble_eq_true rfl, by (try dsimp only); omega, by (try dsimp only); omega⟩, fun _ _ z => False.elim z, ?_⟩
    rintro o9 h9 ⟨e9, er9⟩
    obtain ⟨p1, hp1⟩ : ∃ r, r = y_bl (a >>> (Int32.ofInt 4 &&& 31)) (Int32.ofInt 2) := ⟨_, rfl⟩
    obtain rfl : o9 = some (j_i p1) := er9.trans (congrArg (fun r => some (j_i r)) hp1.symm)
    obtain rfl : h = h9 := e9.symm
    clear er9 e9
    have bp1 := y_blb (v := a >>> (Int32.ofInt 4 &&& 31)) (n := Int32.ofInt 2) (by decide)
    rw [← hp1] at bp1
    conv => whnf
    refine ⟨rfl, _, _, _, _, _, _, c_y_below (by decide), ⟨Nat.le_of_ble_eq_true rfl, Nat.le_of_ble_eq_true rfl, by (try dsimp only); omega, by (try dsimp only); omega⟩, fun _ _ z => False.elim z, ?_⟩
    rintro o9 h9 ⟨e9, er9⟩
    obtain ⟨p2, hp2⟩ : ∃ r, r = y_bl (a >>> (Int32.ofInt 5 &&& 31)) ((Int8.ofInt 60).toInt32) := ⟨_, rfl⟩
    obtain rfl : o9 = some (j_i p2) := er9.trans (congrArg (fun r => some (j_i r)) hp2.symm)
    obtain rfl : h = h9 := e9.symm
    clear er9 e9
    have bp2 := y_blb (v := a >>> (Int32.ofInt 5 &&& 31)) (n := (Int8.ofInt 60).toInt32) (by decide)
    rw [← hp2] at bp2
    have c1' := j_clamp (i := p1) (by omega)
    have z2 : (Int32.ofInt 2).toInt = 2 := by decide
    conv => whnf
    refine ⟨w.1.1, rfl, _, _, _, _, _, _, c_G_pacez w.1 w.2.1 w.2.2.1.1.1, ⟨Nat.le_of_ble_eq_true rfl, Nat.le_of_ble_eq_true rfl, by (try dsimp only); omega, by (try dsimp only); omega⟩, ?_, ?_⟩
    · rintro k9 h9 ⟨hk, e9⟩
      obtain rfl : h = h9 := e9.symm
      rcases hk with ⟨rfl, -⟩ | ⟨rfl, -⟩
      · conv => whnf
        intro a9
        conv => whnf
        exact ⟨Or.inl rfl, ⟨by (try dsimp only); omega, by (try dsimp only); omega⟩, _, rfl, Or.inl ⟨rfl, (y_Q.rf w)⟩⟩
      · conv => whnf
        intro a9
        conv => whnf
        exact ⟨Or.inl rfl, ⟨by (try dsimp only); omega, by (try dsimp only); omega⟩, _, rfl, Or.inl ⟨rfl, (y_Q.rf w)⟩⟩
    · rintro v9 h9 ⟨⟨c1, c2⟩, rfl, fs, I9, e9⟩
      conv => whnf
      exact ⟨Or.inr rfl, ⟨by (try dsimp only); omega, by (try dsimp only); omega⟩, _, rfl, Or.inr ⟨rfl, h, _, (y_Q.rf w), y_D.of w fs I9 e9 (y_ok.pace w.2.2.1 ((j_cqp c1).trans (j_cqp c2))) ((show 1 ≤ (j_u1 (z_c h x).1 (j_pf p1) _ 0).toInt by rw [show j_u1 (z_c h x).1 (j_pf p1) _ 0 = (z_c h x).1 0 from if_neg (by rcases j_pf34' p1 with ⟨_, q⟩ | ⟨_, q⟩ <;> rw [q] <;> omega)]; exact w.2.2.2)), ⟨Int.le_of_eq (congrArg Int32.toInt (show (z_c h x).1 0 = j_u1 (z_c h x).1 (j_pf p1) _ 0 from (if_neg (by rcases j_pf34' p1 with ⟨_, q⟩ | ⟨_, q⟩ <;> rw [q] <;> omega)).symm)), fun n8 n5 => absurd hv n5, fun _ => ⟨if_neg (by rcases j_pf34' p1 with ⟨_, q⟩ | ⟨_, q⟩ <;> rw [q] <;> omega), fun P Q hP hQ hQp => by rw [← hp1] at hQ hQp; exact hP.pace w.2.2.1 (p := p1.toNatClampNeg) (by omega) hQ hQp⟩, fun z => absurd z (by omega)⟩⟩⟩
  · have hv : (y_bl a ((Int8.ofInt 14).toInt32)).toInt = 6 := hv
    conv => whnf
    refine ⟨rfl, _, _, _, _, _, _, c_y_below (by decide), ⟨Nat.le_of_ble_eq_true rfl, Nat.le_of_ble_eq_true rfl, by (try dsimp only); omega, by (try dsimp only); omega⟩, fun _ _ z => False.elim z, ?_⟩
    rintro o9 h9 ⟨e9, er9⟩
    obtain ⟨p1, hp1⟩ : ∃ r, r = y_bl (a >>> (Int32.ofInt 4 &&& 31)) ((Int8.ofInt 6).toInt32) := ⟨_, rfl⟩
    obtain rfl : o9 = some (j_i p1) := er9.trans (congrArg (fun r => some (j_i r)) hp1.symm)
    obtain rfl : h = h9 := e9.symm
    clear er9 e9
    have bp1 := y_blb (v := a >>> (Int32.ofInt 4 &&& 31)) (n := (Int8.ofInt 6).toInt32) (by decide)
    rw [← hp1] at bp1
    conv => whnf
    refine ⟨w.1.1, rfl, _, _, _, _, _, _, c_G_slipz w.1 w.2.1, ⟨Nat.le_of_ble_eq_true rfl, Nat.le_of_ble_eq_true rfl, by (try dsimp only); omega, by (try dsimp only); omega⟩, ?_, ?_⟩
    · rintro k9 h9 ⟨rfl, -, e9⟩
      obtain rfl : h = h9 := e9.symm
      conv => whnf
      intro a9
      conv => whnf
      exact ⟨Or.inl rfl, ⟨by (try dsimp only); omega, by (try dsimp only); omega⟩, _, rfl, Or.inl ⟨rfl, (y_Q.rf w)⟩⟩
    · rintro v9 h9 ⟨c1, rfl, fs, I9, e9⟩
      conv => whnf
      exact ⟨Or.inr rfl, ⟨by (try dsimp only); omega, by (try dsimp only); omega⟩, _, rfl, Or.inr ⟨rfl, h, _, (y_Q.rf w), y_D.of w fs I9 e9 (y_ok.slip w.2.2.1 (j_cqp c1)) ((show 1 ≤ ((z_c h x).1 0).toInt from w.2.2.2)), ⟨Int.le_refl _, fun n8 n5 P hP => hP.slip, fun z => absurd z (by omega), fun z => absurd z (by omega)⟩⟩⟩
  · have hv : (y_bl a ((Int8.ofInt 14).toInt32)).toInt = 7 := hv
    conv => whnf
    refine ⟨rfl, _, _, _, _, _, _, c_y_below (by omega), ⟨Nat.le_of_ble_eq_true rfl, Nat.le_of_ble_eq_true rfl, by (try dsimp only); omega, by (try dsimp only); omega⟩, fun _ _ z => False.elim z, ?_⟩
    rintro o9 h9 ⟨e9, er9⟩
    obtain ⟨p1, hp1⟩ : ∃ r, r = y_bl (a >>> (Int32.ofInt 4 &&& 31)) (mx) := ⟨_, rfl⟩
    obtain rfl : o9 = some (j_i p1) := er9.trans (congrArg (fun r => some (j_i r)) hp1.symm)
    obtain rfl : h = h9 := e9.symm
    clear er9 e9
    have bp1 := y_blb (v := a >>> (Int32.ofInt 4 &&& 31)) (n := mx) (by omega)
    rw [← hp1] at bp1
    conv => whnf
    refine ⟨w.1.1, rfl, _, _, _, _, _, _, c_G_withdrawz w.1 w.2.1, ⟨Nat.le_of_ble_eq_true rfl, Nat.le_of_ble_eq_true rfl, by (try dsimp only); omega, by (try dsimp only); omega⟩, ?_, ?_⟩
    · rintro k9 h9 ⟨hk, e9⟩
      obtain rfl : h = h9 := e9.symm
      rcases hk with ⟨rfl, -⟩ | ⟨rfl, -⟩
      · conv => whnf
        intro a9
        conv => whnf
        exact ⟨Or.inl rfl, ⟨by (try dsimp only); omega, by (try dsimp only); omega⟩, _, rfl, Or.inl ⟨rfl, (y_Q.rf w)⟩⟩
      · conv => whnf
        intro a9
        conv => whnf
        exact ⟨Or.inl rfl, ⟨by (try dsimp only); omega, by (try dsimp only); omega⟩, _, rfl, Or.inl ⟨rfl, (y_Q.rf w)⟩⟩
    · rintro v9 h9 ⟨⟨c1, c2⟩, rfl, fs, I9, e9⟩
      conv => whnf
      exact ⟨Or.inr rfl, ⟨by (try dsimp only); omega, by (try dsimp only); omega⟩, _, rfl, Or.inr ⟨rfl, h, _, (y_Q.rf w), y_D.of w fs I9 e9 (w.2.2.1.withdraw) ((show 1 ≤ ((z_c h x).1 0).toInt from w.2.2.2)), ⟨Int.le_refl _, fun n8 n5 P hP => hP.withdraw, fun z => absurd z (by omega), fun z => ⟨_, rfl⟩⟩⟩⟩
  · have hv : (y_bl a ((Int8.ofInt 14).toInt32)).toInt = 8 := hv
    conv => whnf
    refine ⟨rfl, _, _, _, _, _, _, c_y_below (by omega), ⟨Nat.le_of_ble_eq_true rfl, Nat.le_of_ble_eq_true rfl, by (try dsimp only); omega, by (try dsimp only); omega⟩, fun _ _ z => False.elim z, ?_⟩
    rintro o9 h9 ⟨e9, er9⟩
    obtain ⟨p1, hp1⟩ : ∃ r, r = y_bl (a >>> (Int32.ofInt 4 &&& 31)) (mx) := ⟨_, rfl⟩
    obtain rfl : o9 = some (j_i p1) := er9.trans (congrArg (fun r => some (j_i r)) hp1.symm)
    obtain rfl : h = h9 := e9.symm
    clear er9 e9
    have bp1 := y_blb (v := a >>> (Int32.ofInt 4 &&& 31)) (n := mx) (by omega)
    rw [← hp1] at bp1
    conv => whnf
    refine ⟨rfl, _, _, _, _, _, _, c_y_below (by omega), ⟨Nat.le_of_ble_eq_true rfl, Nat.le_of_ble_eq_true rfl, by (try dsimp only); omega, by (try dsimp only); omega⟩, fun _ _ z => False.elim z, ?_⟩
    rintro o9 h9 ⟨e9, er9⟩
    obtain ⟨p2, hp2⟩ : ∃ r, r = y_bl (a >>> (Int32.ofInt 4 &&& 31)) (mx) := ⟨_, rfl⟩
    obtain rfl : o9 = some (j_i p2) := er9.trans (congrArg (fun r => some (j_i r)) hp2.symm)
    obtain rfl : h = h9 := e9.symm
    clear er9 e9
    have bp2 := y_blb (v := a >>> (Int32.ofInt 4 &&& 31)) (n := mx) (by omega)
    rw [← hp2] at bp2
    conv => whnf
    refine ⟨⟨Nat.le_of_ble_eq_true rfl, Nat.le_of_ble_eq_true rfl, by (try dsimp only); omega, by (try dsimp only); omega⟩, ?_⟩
    have m2 := y_max (r := mx - Int32.ofInt 1)
    generalize (if Int32.ofInt 1 < (mx - Int32.ofInt 1) then (mx - Int32.ofInt 1) else Int32.ofInt 1) = mz at m2 ⊢
    conv => whnf
    refine ⟨rfl, _, _, _, _, _, _, c_y_below (by omega), ⟨Nat.le_of_ble_eq_true rfl, Nat.le_of_ble_eq_true rfl, by (try dsimp only); omega, by (try dsimp only); omega⟩, fun _ _ z => False.elim z, ?_⟩
    rintro o9 h9 ⟨e9, er9⟩
    obtain ⟨p3, hp3⟩ : ∃ r, r = y_bl (a >>> ((Int8.ofInt 7).toInt32 &&& 31)) (mz) := ⟨_, rfl⟩
    obtain rfl : o9 = some (j_i p3) := er9.trans (congrArg (fun r => some (j_i r)) hp3.symm)
    obtain rfl : h = h9 := e9.symm
    clear er9 e9
    have bp3 := y_blb (v := a >>> ((Int8.ofInt 7).toInt32 &&& 31)) (n := mz) (by omega)
    rw [← hp3] at bp3
    conv => whnf
    refine ⟨fun z => absurd (j_e0.mp z) (by omega), ?_⟩
    conv => whnf
    refine ⟨w.1.1, rfl, _, _, _, _, _, _, c_G_swapz w.1 w.2.1, ⟨Nat.le_of_ble_eq_true rfl, Nat.le_of_ble_eq_true rfl, by (try dsimp only); omega, by (try dsimp only); omega⟩, ?_, ?_⟩
    · rintro k9 h9 ⟨hk, e9⟩
      obtain rfl : h = h9 := e9.symm
      rcases hk with ⟨rfl, -⟩ | ⟨rfl, -⟩
      · conv => whnf
        intro a9
        conv => whnf
        exact ⟨Or.inl rfl, ⟨by (try dsimp only); omega, by (try dsimp only); omega⟩, _, rfl, Or.inl ⟨rfl, (y_Q.rf w)⟩⟩
      · conv => whnf
        intro a9
        conv => whnf
        exact ⟨Or.inl rfl, ⟨by (try dsimp only); omega, by (try dsimp only); omega⟩, _, rfl, Or.inl ⟨rfl, (y_Q.rf w)⟩⟩
    · rintro v9 h9 ⟨c1, ⟨r9, rfl⟩, fs, I9, e9⟩
      conv => whnf
      exact ⟨Or.inr rfl, ⟨by (try dsimp only); omega, by (try dsimp only); omega⟩, _, rfl, Or.inr ⟨rfl, h, _, (y_Q.rf w), y_D.of w fs I9 e9 (w.2.2.1.swap) ((show 1 ≤ ((z_c h x).1 0).toInt from w.2.2.2)), ⟨Int.le_refl _, fun n8 => absurd hv n8, fun z => absurd z (by omega), fun z => absurd z (by omega)⟩⟩⟩
  · have hv : (y_bl a ((Int8.ofInt 14).toInt32)).toInt = 9 := hv
    conv => whnf
    refine ⟨rfl, _, _, _, _, _, _, c_y_below (by omega), ⟨Nat.le_of_ble_eq_true rfl, Nat.le_of_ble_eq_true rfl, by (try dsimp only); omega, by (try dsimp only); omega⟩, fun _ _ z => False.elim z, ?_⟩
    rintro o9 h9 ⟨e9, er9⟩
    obtain ⟨p1, hp1⟩ : ∃ r, r = y_bl (a >>> (Int32.ofInt 4 &&& 31)) (mx) := ⟨_, rfl⟩
    obtain rfl : o9 = some (j_i p1) := er9.trans (congrArg (fun r => some (j_i r)) hp1.symm)
    obtain rfl : h = h9 := e9.symm
    clear er9 e9
    have bp1 := y_blb (v := a >>> (Int32.ofInt 4 &&& 31)) (n := mx) (by omega)
    rw [← hp1] at bp1
    conv => whnf
    refine ⟨rfl, _, _, _, _, _, _, c_y_below (by decide), ⟨Nat.le_of_ble_eq_true rfl, Nat.le_of_ble_eq_true rfl, by (try dsimp only); omega, by (try dsimp only); omega⟩, fun _ _ z => False.elim z, ?_⟩
    rintro o9 h9 ⟨e9, er9⟩
    obtain ⟨p2, hp2⟩ : ∃ r, r = y_bl (a >>> ((Int8.ofInt 8).toInt32 &&& 31)) (Int32.ofInt 4) := ⟨_, rfl⟩
    obtain rfl : o9 = some (j_i p2) := er9.trans (congrArg (fun r => some (j_i r)) hp2.symm)
    obtain rfl : h = h9 := e9.symm
    clear er9 e9
    have bp2 := y_blb (v := a >>> ((Int8.ofInt 8).toInt32 &&& 31)) (n := Int32.ofInt 4) (by decide)
    rw [← hp2] at bp2
    conv => whnf
    refine ⟨w.1.1, rfl, _, _, _, _, _, _, c_G_printz w.1 w.2.1, ⟨Nat.le_of_ble_eq_true rfl, Nat.le_of_ble_eq_true rfl, by (try dsimp only); omega, by (try dsimp only); omega⟩, ?_, ?_⟩
    · rintro k9 h9 ⟨hk, e9⟩
      obtain rfl : h = h9 := e9.symm
      rcases hk with ⟨rfl, -⟩ | ⟨rfl, -⟩
      · conv => whnf
        intro a9
        conv => whnf
        exact ⟨Or.inl rfl, ⟨by (try dsimp only); omega, by (try dsimp only); omega⟩, _, rfl, Or.inl ⟨rfl, (y_Q.rf w)⟩⟩
      · conv => whnf
        intro a9
        conv => whnf
        exact ⟨Or.inl rfl, ⟨by (try dsimp only); omega, by (try dsimp only); omega⟩, _, rfl, Or.inl ⟨rfl, (y_Q.rf w)⟩⟩
    · rintro v9 h9 ⟨⟨c1, c2⟩, rfl, fs, I9, e9⟩
      conv => whnf
      exact ⟨Or.inr rfl, ⟨by (try dsimp only); omega, by (try dsimp only); omega⟩, _, rfl, Or.inr ⟨rfl, h, _, (y_Q.rf w), y_D.of w fs I9 e9 (w.2.2.1.print) ((show 1 ≤ ((z_c h x).1 0).toInt from w.2.2.2)), ⟨Int.le_refl _, fun n8 n5 P hP => hP.print, fun z => absurd z (by omega), fun z => absurd z (by omega)⟩⟩⟩
  · have hv : (y_bl a ((Int8.ofInt 14).toInt32)).toInt < 0 ∨ 9 < (y_bl a ((Int8.ofInt 14).toInt32)).toInt := hv
    conv => whnf
    refine ⟨rfl, _, _, _, _, _, _, c_y_ran w, ⟨Nat.le_of_ble_eq_true rfl, Nat.le_of_ble_eq_true rfl, by (try dsimp only); omega, by (try dsimp only); omega⟩, ?_, ?_⟩
    · rintro k9 h9 ⟨rfl, -, q⟩
      conv => whnf
      intro a9
      conv => whnf
      exact ⟨Or.inl rfl, ⟨by (try dsimp only); omega, by (try dsimp only); omega⟩, _, rfl, Or.inl ⟨rfl, q⟩⟩
    · rintro v9 h9 ⟨rfl, h1, b, c, d, e, q, hq, dd⟩
      have q := q
      conv => whnf
      exact ⟨Or.inr rfl, ⟨by (try dsimp only); omega, by (try dsimp only); omega⟩, _, rfl, Or.inr ⟨rfl, h1, _, q, dd, Int.le_refl _, fun n8 n5 P hP => hP.run q.1.2.2.1 (y_bd q.1.1).2.1.1 hq, fun z => absurd z (by omega), fun z => absurd z (by omega)⟩⟩
