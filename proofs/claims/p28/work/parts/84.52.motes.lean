set_option maxHeartbeats 8000000 in
set_option maxRecDepth 20000 in
theorem c_y_areMotes {h : j_H} {x : Nat} (w : y_W h x) : j_Ct 166 8 177 110 660 [j_r (some x)] h (fun v h' => y_Q x h h' ∧ v = some (j_i (Int32.ofInt 1))) j_no := by
  refine j_intro km_166 (Nat.le_of_ble_eq_true rfl) ?_
  intro J hJ hF
  have bd := (y_bd w.1).1
  refine hJ [4, 15] 400 _ _ _ _ _ _ ?_
  have L : ∀ (k : Nat) (s v : Int32) (H : j_H) (cn sn : Nat), y_Q x h H → s = z_sI (z_br (z_c h x)) v.toNatClampNeg → cn ≤ 13 * v.toInt.toNat → sn ≤ 78 * v.toInt.toNat → 0 ≤ v.toInt → v.toInt ≤ (j_sz h x 0).toInt → (j_sz h x 0).toInt - v.toInt < (k : Int) → J 4 [some (j_r (some x)), some (j_i s), some (j_i v), none] [] H cn sn := by
    intro k
    induction k with
    | zero => intro s v H cn sn q iv hc hs h0 h1 hm; omega
    | succ k ih =>
      intro s v H cn sn q iv hc hs h0 h1 hm
      have cl := j_clamp h0
      refine hJ [4, 15] 400 _ _ _ _ _ _ ?_
      conv => whnf
      refine ⟨q.1.1.1, rfl, _, _, _, _, _, _, y_lab q.1 (by decide), ⟨Nat.le_of_ble_eq_true rfl, Nat.le_of_ble_eq_true rfl, by (try dsimp only); omega, by (try dsimp only); omega⟩, fun _ _ z => False.elim z, ?_⟩
      rintro o9 h1 ⟨q1, er9⟩
      obtain ⟨r1, hr1⟩ : ∃ r, r = j_sz h x 0 := ⟨_, rfl⟩
      obtain rfl : o9 = some (j_i r1) := er9.trans (congrArg (fun r => some (j_i r)) (by rw [hr1]; exact (show (z_c H x).1 0 = (z_c h x).1 0 from q.2.1.1 0 (by decide))))
      clear er9
      have q2 := q.tr q1
      conv => whnf
      refine ⟨fun c => ?_, fun c => ?_⟩
      · have c : r1.toInt ≤ v.toInt := c
        rw [hr1] at c
        conv => whnf
        refine ⟨q2.1.1.1, rfl, _, _, _, _, _, _, y_lab q2.1 (by decide), ⟨Nat.le_of_ble_eq_true rfl, Nat.le_of_ble_eq_true rfl, by (try dsimp only); omega, by (try dsimp only); omega⟩, fun _ _ z => False.elim z, ?_⟩
        rintro o9 h4 ⟨q4, er9⟩
        obtain ⟨r4, hr4⟩ : ∃ r, r = z_lq (z_c h x) 10 := ⟨_, rfl⟩
        obtain rfl : o9 = some (j_i r4) := er9.trans (congrArg (fun r => some (j_i r)) (by rw [hr4]; exact z_lq_c q2.2.1 (y_bd q2.1.1).1.1 (y_bd q2.1.1).2.1.1 (y_bd q2.1.1).2.2.1 (z_cnt_st q2.2.1 (z_cP q2.1.1 q2.1.2.1) (y_bd q2.1.1).2.2.1)))
        clear er9
        have q3 := q2.tr q4
        have e : s = r4 := by
          rw [iv, hr4, show v.toNatClampNeg = (j_sz h x 0).toNatClampNeg by have := j_clamp (i := j_sz h x 0) (by omega); omega]
          rfl
        conv => whnf
        refine ⟨fun c5 => absurd (congrArg Int32.toInt e) c5, fun _ => ?_⟩
        conv => whnf
        exact ⟨Or.inr rfl, ⟨by (try dsimp only); omega, by (try dsimp only); omega⟩, q3, rfl⟩
      · have c : ¬ r1.toInt ≤ v.toInt := c
        rw [hr1] at c
        have t : (v + Int32.ofInt 1).toInt = v.toInt + 1 := j_inc1 (by omega)
        have ct := j_clamp (i := v + Int32.ofInt 1) (by omega)
        have lk : z_lt (z_c h x) 0 v.toNatClampNeg := by show (v.toNatClampNeg : Int) < (j_sz h x 0).toInt; omega
        have zs : j_sz h1 x 0 = j_sz h x 0 := q2.2.1.1 0 (by decide)
        have zi := congrArg Int32.toInt zs
        have L15 : ∀ (k : Nat) (s2 v2 : Int32) (cn sn : Nat), s2 = y_sm (z_c h x) v.toNatClampNeg v2.toNatClampNeg s → cn ≤ 13 * v.toInt.toNat + 1 + 2 * v2.toInt.toNat → sn ≤ 78 * v.toInt.toNat + 6 + 12 * v2.toInt.toNat → 0 ≤ v2.toInt → v2.toInt ≤ 6 → 6 - v2.toInt < (k : Int) → J 15 [some (j_r (some x)), some (j_i s2), some (j_i v), some (j_i v2)] [] h1 cn sn := by
          intro k
          induction k with
          | zero => intro s2 v2 cn sn iw hc hs h0 h1 hm; omega
          | succ k ih2 =>
            intro s2 v2 cn sn iw hc2 hs2 h20 h21 hm2
            have cl2 := j_clamp h20
            have q6 : ((Int8.ofInt 6).toInt32).toInt = 6 := by decide
            refine hJ [4, 15] 400 _ _ _ _ _ _ ?_
            conv => whnf
            refine ⟨fun c7 => ?_, fun c7 => ?_⟩
            · have c7 : ((Int8.ofInt 6).toInt32).toInt ≤ v2.toInt := c7
              exact j_use hF (ih s2 (v + Int32.ofInt 1) h1 _ _ q2 (by rw [iw, show v2.toNatClampNeg = 6 by omega, y_sm6 w.2.2.1 lk, iv, show (v + Int32.ofInt 1).toNatClampNeg = v.toNatClampNeg + 1 by omega]; rfl) (by (try dsimp only); omega) (by (try dsimp only); omega) (by omega) (by omega) (by omega)) (And.intro rfl (And.intro rfl (And.intro rfl trivial)))
            · have c7 : ¬ ((Int8.ofInt 6).toInt32).toInt ≤ v2.toInt := c7
              have t2 : (v2 + Int32.ofInt 1).toInt = v2.toInt + 1 := j_inc1 (by omega)
              have ct2 := j_clamp (i := v2 + Int32.ofInt 1) (by omega)
              have ge := y_gq w.2.2.1 lk (w := v2.toNatClampNeg) (by omega)
              conv => whnf
              refine ⟨q2.1.1.1, rfl, _, _, _, _, _, _, y_ofGrainq q2.1 ⟨h0, by omega⟩ ⟨h20, by omega⟩, ⟨Nat.le_of_ble_eq_true rfl, Nat.le_of_ble_eq_true rfl, by (try dsimp only); omega, by (try dsimp only); omega⟩, fun _ _ z => False.elim z, ?_⟩
              rintro o9 h9 ⟨e9, er9⟩
              obtain ⟨r5, hr5⟩ : ∃ r, r = z_gq (z_c h x) v.toNatClampNeg v2.toNatClampNeg := ⟨_, rfl⟩
              obtain rfl : o9 = some (j_i r5) := er9.trans (congrArg (fun r => some (j_i r)) (by rw [hr5]; exact z_gq_c q2.2.1 (y_bd q2.1.1).2.1.1 (show (v.toNatClampNeg : Int) < (j_sz h1 x 0).toInt by omega)))
              obtain rfl : h1 = h9 := e9.symm
              clear er9 e9
              rw [← hr5] at ge
              conv => whnf
              refine ⟨fun _ => ?_, fun c8 => ?_⟩
              rotate_left
              · have c8 : ¬ 0 ≤ r5.toInt := c8
                omega
              conv => whnf
              refine ⟨q2.1.1.1, rfl, _, _, _, _, _, _, y_ofGrainq q2.1 ⟨h0, by omega⟩ ⟨h20, by omega⟩, ⟨Nat.le_of_ble_eq_true rfl, Nat.le_of_ble_eq_true rfl, by (try dsimp only); omega, by (try dsimp only); omega⟩, fun _ _ z => False.elim z, ?_⟩
              rintro o9 h9 ⟨e9, er9⟩
              obtain ⟨r6, hr6⟩ : ∃ r, r = z_gq (z_c h x) v.toNatClampNeg v2.toNatClampNeg := ⟨_, rfl⟩
              obtain rfl : o9 = some (j_i r6) := er9.trans (congrArg (fun r => some (j_i r)) (by rw [hr6]; exact z_gq_c q2.2.1 (y_bd q2.1.1).2.1.1 (show (v.toNatClampNeg : Int) < (j_sz h1 x 0).toInt by omega)))
              obtain rfl : h1 = h9 := e9.symm
              clear er9 e9
              conv => whnf
              exact j_use hF (ih2 (s2 + r6) (v2 + Int32.ofInt 1) _ _ (by rw [show (v2 + Int32.ofInt 1).toNatClampNeg = v2.toNatClampNeg + 1 by omega, hr6, iw]; rfl) (by (try dsimp only); omega) (by (try dsimp only); omega) (by omega) (by omega) (by omega)) (And.intro rfl (And.intro rfl (And.intro rfl (And.intro rfl trivial))))
        exact j_use hF (L15 100 s (Int32.ofInt 0) _ _ (by rw [show (Int32.ofInt 0).toNatClampNeg = 0 by decide]; rfl) (by rw [show (Int32.ofInt 0).toInt = 0 by decide]; (try dsimp only); omega) (by rw [show (Int32.ofInt 0).toInt = 0 by decide]; (try dsimp only); omega) (by decide) (by decide) (by decide)) (And.intro rfl (And.intro rfl (And.intro rfl (And.intro rfl trivial))))
  exact j_use hF (L 100 (Int32.ofInt 0) (Int32.ofInt 0) h _ _ (y_Q.rf w) (by rw [show (Int32.ofInt 0).toNatClampNeg = 0 by decide]; rfl) (by decide) (by decide) (by decide) (by rw [show (Int32.ofInt 0).toInt = 0 by decide]; omega) (by rw [show (Int32.ofInt 0).toInt = 0 by decide]; omega)) (And.intro rfl (And.intro rfl (And.intro rfl trivial)))
