set_option maxHeartbeats 8000000 in
set_option maxRecDepth 20000 in
theorem c_y_areAges {h : j_H} {x p : Nat} (w : y_W h x) (kp : j_kd h p = some (.inr 0)) (lp : j_ln h p = 2) (J0 : y_J (z_c h x) (fun c => (j_it h p c).toInt)) : j_Ct 165 8 177 170 1020 [j_r (some x), j_r (some p)] h (fun v h' => y_Q x h h' ∧ v = some (j_i (Int32.ofInt 1))) j_no := by
  refine j_intro km_165 (Nat.le_of_ble_eq_true rfl) ?_
  intro J hJ hF
  have bd := y_bd w.1
  refine hJ [7, 93] 400 _ _ _ _ _ _ ?_
  conv => whnf
  refine ⟨rfl, _, _, _, _, _, _, c_y_runs w, ⟨Nat.le_of_ble_eq_true rfl, Nat.le_of_ble_eq_true rfl, by (try dsimp only); omega, by (try dsimp only); omega⟩, fun _ _ z => False.elim z, ?_⟩
  rintro v9 h9 ⟨e9, rfl⟩
  obtain rfl : h = h9 := e9.symm
  clear e9
  have L : ∀ (k : Nat) (v : Int32) (H : j_H) (cn sn : Nat), y_Q x h H → cn ≤ 21 + 7 * v.toInt.toNat → sn ≤ 126 + 42 * v.toInt.toNat → 0 ≤ v.toInt → v.toInt ≤ (j_sz h x 1).toInt → (j_sz h x 1).toInt - v.toInt < (k : Int) → J 7 [some (j_r (some x)), some (j_r (some p)), some (j_i (j_sz h x 1)), some (j_i v), none, none, none] [] H cn sn := by
    intro k
    induction k with
    | zero => intro v H cn sn q hc hs h0 h1 hm; omega
    | succ k ih =>
      intro v H cn sn q hc hs h0 h1 hm
      have cl := j_clamp h0
      refine hJ [7, 93] 400 _ _ _ _ _ _ ?_
      conv => whnf
      refine ⟨fun c => ?_, fun c => ?_⟩
      · have c : (j_sz h x 1).toInt ≤ v.toInt := c
        conv => whnf
        exact ⟨Or.inr rfl, ⟨by (try dsimp only); omega, by (try dsimp only); omega⟩, q, rfl⟩
      · have c : ¬ (j_sz h x 1).toInt ≤ v.toInt := c
        have t : (v + Int32.ofInt 1).toInt = v.toInt + 1 := j_inc1 (by omega)
        have lk : z_lt (z_c h x) 1 v.toNatClampNeg := by show (v.toNatClampNeg : Int) < (j_sz h x 1).toInt; omega
        have z1 := congrArg Int32.toInt (show j_sz H x 1 = j_sz h x 1 from q.2.1.1 1 (by decide))
        have z0 := congrArg Int32.toInt (show j_sz H x 0 = j_sz h x 0 from q.2.1.1 0 (by decide))
        have lb := y_Lz w.2.1 v.toNatClampNeg lk
        have lb2 : ((z_c h x).2.2.2.1 v.toNatClampNeg 0).toInt < (j_sz h x 0).toInt := lb.2
        have V5 := (w.2.2.1.1.1.2.2.2 v.toNatClampNeg lk).1
        conv => whnf
        refine ⟨q.1.1.1, rfl, _, _, _, _, _, _, y_ofRunq q.1 ⟨h0, by omega⟩ (by decide), ⟨Nat.le_of_ble_eq_true rfl, Nat.le_of_ble_eq_true rfl, by (try dsimp only); omega, by (try dsimp only); omega⟩, fun _ _ z => False.elim z, ?_⟩
        rintro o9 h9 ⟨e9, er9⟩
        obtain ⟨r1, hr1⟩ : ∃ r, r = (z_c h x).2.2.2.1 v.toNatClampNeg 0 := ⟨_, rfl⟩
        obtain rfl : o9 = some (j_i r1) := er9.trans (congrArg (fun r => some (j_i r)) (by rw [hr1]; exact z_rq_c (w := 0) q.2.1 (show (v.toNatClampNeg : Int) < (j_sz H x 1).toInt by omega)))
        obtain rfl : H = h9 := e9.symm
        clear er9 e9
        have cr1 := j_clamp (i := r1) (by rw [hr1]; exact lb.1)
        rw [← hr1] at lb lb2
        have lg : z_lt (z_c h x) 0 r1.toNatClampNeg := by show (r1.toNatClampNeg : Int) < (j_sz h x 0).toInt; omega
        conv => whnf
        refine ⟨q.1.1.1, rfl, _, _, _, _, _, _, y_ofGrainq q.1 ⟨lb.1, by omega⟩ (by decide), ⟨Nat.le_of_ble_eq_true rfl, Nat.le_of_ble_eq_true rfl, by (try dsimp only); omega, by (try dsimp only); omega⟩, fun _ _ z => False.elim z, ?_⟩
        rintro o9 h9 ⟨e9, er9⟩
        obtain ⟨r2, hr2⟩ : ∃ r, r = (z_c h x).1 6 - (z_c h x).2.2.1 r1.toNatClampNeg 1 := ⟨_, rfl⟩
        obtain rfl : o9 = some (j_i r2) := er9.trans (congrArg (fun r => some (j_i r)) (by rw [hr2]; exact z_gq_c (w := 6) q.2.1 (y_bd q.1.1).2.1.1 (show (r1.toNatClampNeg : Int) < (j_sz H x 0).toInt by omega)))
        obtain rfl : H = h9 := e9.symm
        clear er9 e9
        conv => whnf
        refine ⟨q.1.1.1, rfl, _, _, _, _, _, _, y_lab q.1 (by decide), ⟨Nat.le_of_ble_eq_true rfl, Nat.le_of_ble_eq_true rfl, by (try dsimp only); omega, by (try dsimp only); omega⟩, fun _ _ z => False.elim z, ?_⟩
        rintro o9 h3 ⟨q3, er9⟩
        obtain ⟨r3, hr3⟩ : ∃ r, r = (z_c h x).1 6 := ⟨_, rfl⟩
        obtain rfl : o9 = some (j_i r3) := er9.trans (congrArg (fun r => some (j_i r)) (by rw [hr3]; exact (show (z_c H x).1 6 = (z_c h x).1 6 from q.2.1.1 6 (by decide))))
        clear er9
        have qq := q.tr q3
        have y1 := congrArg Int32.toInt (show j_sz h3 x 1 = j_sz h x 1 from qq.2.1.1 1 (by decide))
        have y0 := congrArg Int32.toInt (show j_sz h3 x 0 = j_sz h x 0 from qq.2.1.1 0 (by decide))
        obtain ⟨pk, pl, pv⟩ := qq.2.2 p 0 kp rfl
        have age : r2.toInt = ((z_c h x).1 6).toInt - ((z_c h x).2.2.1 r1.toNatClampNeg 1).toInt := by
          have a1 := w.2.2.1.2.2 r1.toNatClampNeg lg
          have a2 := w.2.2.1.1.2.1.1
          rw [hr2]
          exact j_subI (by omega) (by omega)
        have born : (r3 - r2).toInt = ((z_c h x).2.2.1 r1.toNatClampNeg 1).toInt := by
          have a1 := w.2.2.1.2.2 r1.toNatClampNeg lg
          have a2 := w.2.2.1.1.2.1.1
          rw [j_subI (by rw [hr3]; omega) (by rw [hr3]; omega), hr3]
          omega
        have back : ∀ (a b c : Int32) (cn sn : Nat), cn ≤ 21 + 7 * v.toInt.toNat + 7 → sn ≤ 126 + 42 * v.toInt.toNat + 42 → J 93 [some (j_r (some x)), some (j_r (some p)), some (j_i (j_sz h x 1)), some (j_i v), some (j_i a), some (j_i b), some (j_i c)] [] h3 cn sn := by
          intro a b c cn sn hc hs
          refine hJ [7, 93] 400 _ _ _ _ _ _ ?_
          conv => whnf
          exact j_use hF (ih (v + Int32.ofInt 1) h3 _ _ qq (by (try dsimp only); omega) (by (try dsimp only); omega) (by omega) (by omega) (by omega)) (And.intro rfl (And.intro rfl (And.intro rfl (And.intro rfl trivial))))
        conv => whnf
        refine ⟨qq.1.1.1, rfl, _, _, _, _, _, _, y_ofGrainq qq.1 ⟨lb.1, by omega⟩ (by decide), ⟨Nat.le_of_ble_eq_true rfl, Nat.le_of_ble_eq_true rfl, by (try dsimp only); omega, by (try dsimp only); omega⟩, fun _ _ z => False.elim z, ?_⟩
        rintro o9 h9 ⟨e9, er9⟩
        obtain ⟨r4, hr4⟩ : ∃ r, r = z_gq (z_c h x) r1.toNatClampNeg 8 := ⟨_, rfl⟩
        obtain rfl : o9 = some (j_i r4) := er9.trans (congrArg (fun r => some (j_i r)) (by rw [hr4]; exact z_gq_c (w := 8) qq.2.1 (y_bd qq.1.1).2.1.1 (show (r1.toNatClampNeg : Int) < (j_sz h3 x 0).toInt by omega)))
        obtain rfl : h3 = h9 := e9.symm
        clear er9 e9
        have one : (Int32.ofInt 1).toInt = 1 := by decide
        conv => whnf
        refine ⟨fun _ => ?_, fun c8 => ?_⟩
        · exact j_use hF (back _ _ _ _ _ (by (try dsimp only); omega) (by (try dsimp only); omega)) (And.intro rfl (And.intro rfl (And.intro rfl (And.intro rfl (And.intro rfl (And.intro rfl (And.intro rfl trivial)))))))
        · have c8 : ¬ r4.toInt = (Int32.ofInt 1).toInt := c8
          have nt : ((z_c h x).2.2.1 r1.toNatClampNeg 2).toInt = 0 := by
            by_cases z : ((z_c h x).2.2.1 r1.toNatClampNeg 2).toInt = 0
            · exact z
            · refine absurd ?_ c8
              rw [hr4]
              show (z_b (decide (¬ ((z_c h x).2.2.1 r1.toNatClampNeg 2).toInt = 0))).toInt = _
              rw [decide_eq_true z]
              rfl
          conv => whnf
          refine ⟨qq.1.1.1, rfl, _, _, _, _, _, _, y_ofRunq qq.1 ⟨h0, by omega⟩ (by decide), ⟨Nat.le_of_ble_eq_true rfl, Nat.le_of_ble_eq_true rfl, by (try dsimp only); omega, by (try dsimp only); omega⟩, fun _ _ z => False.elim z, ?_⟩
          rintro o9 h9 ⟨e9, er9⟩
          obtain ⟨r5, hr5⟩ : ∃ r, r = (z_c h x).2.2.2.1 v.toNatClampNeg 1 := ⟨_, rfl⟩
          obtain rfl : o9 = some (j_i r5) := er9.trans (congrArg (fun r => some (j_i r)) (by rw [hr5]; exact z_rq_c (w := 1) qq.2.1 (show (v.toNatClampNeg : Int) < (j_sz h3 x 1).toInt by omega)))
          obtain rfl : h3 = h9 := e9.symm
          clear er9 e9
          have c5 : r5.toInt = 0 ∨ r5.toInt = 1 := by rw [hr5]; exact V5
          have cr5 := j_clamp (i := r5) (by omega)
          conv => whnf
          refine ⟨_, _, rfl, pk, rfl, j_vp (by omega) (by rw [pl, lp]; omega), fun y ey => ?_⟩
          have ey' : y = j_it h p r5.toNatClampNeg := ey.symm.trans (pv _)
          conv => whnf
          refine ⟨fun c9 => ?_, fun c9 => ?_⟩
          · have c9 : y.toInt ≤ (r3 - r2).toInt := c9
            have ag := y_age w.2.2.1 J0 (k := v.toNatClampNeg) (g := r1.toNatClampNeg) (c := r5.toNatClampNeg) lk lg (by omega) (by rw [← hr1]; omega) (by rw [← hr5]; omega) nt (by rw [← ey', ← born]; exact c9)
            rw [show (z_c h x).1 6 - (z_c h x).2.2.1 r1.toNatClampNeg 1 = r2 from hr2.symm] at ag
            conv => whnf
            refine ⟨qq.1.1.1, rfl, _, _, _, _, _, _, y_ofRunq qq.1 ⟨h0, by omega⟩ (by decide), ⟨Nat.le_of_ble_eq_true rfl, Nat.le_of_ble_eq_true rfl, by (try dsimp only); omega, by (try dsimp only); omega⟩, fun _ _ z => False.elim z, ?_⟩
            rintro o9 h9 ⟨e9, er9⟩
            obtain ⟨r6, hr6⟩ : ∃ r, r = z_er (z_c h x) v.toNatClampNeg := ⟨_, rfl⟩
            obtain rfl : o9 = some (j_i r6) := er9.trans (congrArg (fun r => some (j_i r)) (by rw [hr6]; exact z_rq_c (w := 5) qq.2.1 (show (v.toNatClampNeg : Int) < (j_sz h3 x 1).toInt by omega)))
            obtain rfl : h3 = h9 := e9.symm
            clear er9 e9
            conv => whnf
            refine ⟨fun c10 => ?_, fun c10 => ?_⟩
            · have c10 : r2.toInt < r6.toInt := c10
              rw [hr6] at c10
              omega
            conv => whnf
            refine ⟨qq.1.1.1, rfl, _, _, _, _, _, _, y_ofRunq qq.1 ⟨h0, by omega⟩ (by decide), ⟨Nat.le_of_ble_eq_true rfl, Nat.le_of_ble_eq_true rfl, by (try dsimp only); omega, by (try dsimp only); omega⟩, fun _ _ z => False.elim z, ?_⟩
            rintro o9 h9 ⟨e9, er9⟩
            obtain ⟨r7, hr7⟩ : ∃ r, r = z_lr (z_c h x) v.toNatClampNeg := ⟨_, rfl⟩
            obtain rfl : o9 = some (j_i r7) := er9.trans (congrArg (fun r => some (j_i r)) (by rw [hr7]; exact z_rq_c (w := 6) qq.2.1 (show (v.toNatClampNeg : Int) < (j_sz h3 x 1).toInt by omega)))
            obtain rfl : h3 = h9 := e9.symm
            clear er9 e9
            conv => whnf
            refine ⟨fun _ => ?_, fun c11 => ?_⟩
            · exact j_use hF (back _ _ _ _ _ (by (try dsimp only); omega) (by (try dsimp only); omega)) (And.intro rfl (And.intro rfl (And.intro rfl (And.intro rfl (And.intro rfl (And.intro rfl (And.intro rfl trivial)))))))
            · have c11 : ¬ r2.toInt ≤ r7.toInt := c11
              rw [hr7] at c11
              omega
          · exact j_use hF (back _ _ _ _ _ (by (try dsimp only); omega) (by (try dsimp only); omega)) (And.intro rfl (And.intro rfl (And.intro rfl (And.intro rfl (And.intro rfl (And.intro rfl (And.intro rfl trivial)))))))
  exact j_use hF (L 100 (Int32.ofInt 0) h _ _ (y_Q.rf w) (by rw [show (Int32.ofInt 0).toInt = 0 by decide]; (try dsimp only); omega) (by rw [show (Int32.ofInt 0).toInt = 0 by decide]; (try dsimp only); omega) (by decide) (by rw [show (Int32.ofInt 0).toInt = 0 by decide]; omega) (by rw [show (Int32.ofInt 0).toInt = 0 by decide]; omega)) (And.intro rfl (And.intro rfl (And.intro rfl (And.intro rfl trivial))))
