/-! the model digest: 93.f.mdig -/
set_option maxHeartbeats 4000000 in
set_option maxRecDepth 20000 in
theorem d_t136 {J : j_J} {ρ : Nat → Nat} {H4 : j_H} {m P G R Q r3 : Nat} {Z : j_Z} {Pz : Option j_V → j_H → Prop} (hJ : j_Cl k_172 (j_ml 172, j_rt 172, 18, 807, 50, 400) Pz j_no J) (hF : j_Fg J) (w4 : j_MX ρ H4 m P G R Q) (E4 : z_eq (z_d H4 m P G R Q) Z) (kr : j_kd H4 r3 = some (.inr 0)) (nr : (j_ln H4 r3 : Int) = 2 * (j_it H4 R 2).toInt) (hs : ∀ k : Nat, (k : Int) < (j_it H4 R 2).toInt → j_it H4 r3 (2 * k) = z_er Z k ∧ j_it H4 r3 (2 * k + 1) = z_lr Z k) (V : z_V Z) (B : z_B Z) (L204 : ∀ (k : Nat) (v2 : Int32) (H : j_H) (cn sn : Nat), z_dz ρ m H4 H (z_go (z_pl Z) v2.toNatClampNeg (z_go (z_rl Z) (Z.1 1).toNatClampNeg (z_go (z_gl Z) (Z.1 0).toNatClampNeg (z_fl (z_lq Z) 11 (Int64.ofNat 3643))))) → v2.toInt ≤ (j_it H4 Q 2).toInt → cn ≤ 23 → sn ≤ 216 → 0 ≤ v2.toInt → (j_it H4 Q 2).toInt - v2.toInt < (k : Int) → J 204 [some (j_r (some m)), some (j_r (some r3)), some (j_i v2), none] [] H cn sn) : ∀ (k : Nat) (v2 : Int32) (H : j_H) (cn sn : Nat), z_dz ρ m H4 H (z_go (z_rl Z) v2.toNatClampNeg (z_go (z_gl Z) (Z.1 0).toNatClampNeg (z_fl (z_lq Z) 11 (Int64.ofNat 3643)))) → v2.toInt ≤ (j_it H4 R 2).toInt → cn ≤ 23 → sn ≤ 216 → 0 ≤ v2.toInt → (j_it H4 R 2).toInt - v2.toInt < (k : Int) → J 136 [some (j_r (some m)), some (j_r (some r3)), some (j_i v2), none] [] H cn sn := by
  have b4 := w4.b
  have L202 : ∀ (H : j_H) (cn sn : Nat), z_dz ρ m H4 H (z_go (z_rl Z) (Z.1 1).toNatClampNeg (z_go (z_gl Z) (Z.1 0).toNatClampNeg (z_fl (z_lq Z) 11 (Int64.ofNat 3643)))) → cn ≤ 23 → sn ≤ 216 → J 202 [some (j_r (some m)), some (j_r (some r3)), none, none] [] H cn sn := by
    intro H cn sn d0 hcn hsn
    refine hJ [19, 44, 57, 134, 136, 149, 202, 204, 217, 245, 301] 400 _ _ _ _ _ _ ?_
    exact j_use hF (L204 100 (Int32.ofInt 0) H _ _ (by rw [show (Int32.ofInt 0).toNatClampNeg = 0 by decide, z_go_0]; exact d0) (by rw [show (Int32.ofInt 0).toInt = 0 by decide]; omega) (by (try dsimp only); omega) (by (try dsimp only); omega) (by decide) (by rw [show (Int32.ofInt 0).toInt = 0 by decide]; omega)) (And.intro rfl (And.intro rfl (And.intro rfl trivial)))
  intro k
  induction k with
  | zero => intro v2 H cn sn d0 hl hcn hsn hn hm; omega
  | succ k iho =>
    intro v2 H cn sn d0 hl hcn hsn hn hm
    have cl2 := j_clamp hn
    have gd0 := z_dz.get w4 E4 kr nr hs d0
    have wd0 := gd0.1
    have kd0 := gd0.2.1
    have nd0 := gd0.2.2.1
    have ed0 := gd0.2.2.2.1
    have sd0 := gd0.2.2.2.2.1
    have zGd0 := gd0.2.2.2.2.2.1
    have zRd0 := gd0.2.2.2.2.2.2.1
    have zQd0 := gd0.2.2.2.2.2.2.2
    clear gd0
    have bd0 := wd0.b
    refine hJ [19, 44, 57, 134, 136, 149, 202, 204, 217, 245, 301] 400 _ _ _ _ _ _ ?_
    conv => whnf
    refine ⟨_, rfl, wd0.km, fun o20 eo => ?_⟩
    obtain rfl : o20 = some R := eo.symm.trans wd0.eR
    conv => whnf
    refine ⟨wd0.lR.1, rfl, _, _, _, _, _, _, c_AL_size (h := H) wd0.lR j_Sc.rf j_sf_ok, ⟨Nat.le_of_ble_eq_true rfl, Nat.le_of_ble_eq_true rfl, by (try dsimp only); omega, by (try dsimp only); omega⟩, fun _ _ z => False.elim z, ?_⟩
    rintro v9 h9 ⟨e9, rfl⟩
    obtain rfl : H = h9 := e9.symm
    clear e9
    conv => whnf
    refine ⟨fun c22 => ?_, fun c22 => ?_⟩
    · have c22 : (j_it H R 2).toInt ≤ v2.toInt := c22
      have en : v2.toNatClampNeg = (Z.1 1).toNatClampNeg := by
        have z := congrArg Int32.toInt (E4.1 1 (by decide))
        have z : (j_it H4 R 2).toInt = (Z.1 1).toInt := z
        have := j_clamp (i := Z.1 1) (by omega)
        omega
      rw [en] at d0
      exact j_use hF (L202 H _ _ d0 (by (try dsimp only); omega) (by (try dsimp only); omega)) (And.intro rfl (And.intro rfl trivial))
    · have c22 : ¬ (j_it H R 2).toInt ≤ v2.toInt := c22
      have c22 : ¬ (j_it H4 R 2).toInt ≤ v2.toInt := by omega
      clear bd0 zGd0 zRd0 zQd0 nd0 sd0 ed0 kd0 wd0
      have t2 : (v2 + Int32.ofInt 1).toInt = v2.toInt + 1 := j_inc1 (by omega)
      have ct2 := j_clamp (i := v2 + Int32.ofInt 1) (by omega)
      have ek : (v2 + Int32.ofInt 1).toNatClampNeg = v2.toNatClampNeg + 1 := by omega
      have L149 : ∀ (k : Nat) (v3 : Int32) (H : j_H) (cn sn : Nat), z_dz ρ m H4 H (z_fl (z_rq Z v2.toNatClampNeg) (v3.toNatClampNeg) (z_go (z_rl Z) v2.toNatClampNeg (z_go (z_gl Z) (Z.1 0).toNatClampNeg (z_fl (z_lq Z) 11 (Int64.ofNat 3643))))) → v3.toInt ≤ 8 → cn ≤ 23 → sn ≤ 216 → 0 ≤ v3.toInt → 8 - v3.toInt < (k : Int) → J 149 [some (j_r (some m)), some (j_r (some r3)), some (j_i v2), some (j_i v3)] [] H cn sn := by
        intro k
        induction k with
        | zero => intro v3 H cn sn d0 hl hcn hsn hn hm; omega
        | succ k ihi =>
          intro v3 H cn sn d0 hl3 hcn hsn hn3 hm3
          have cl3 := j_clamp (i := v3) (by omega)
          have gd0 := z_dz.get w4 E4 kr nr hs d0
          have wd0 := gd0.1
          have kd0 := gd0.2.1
          have nd0 := gd0.2.2.1
          have ed0 := gd0.2.2.2.1
          have sd0 := gd0.2.2.2.2.1
          have zGd0 := gd0.2.2.2.2.2.1
          have zRd0 := gd0.2.2.2.2.2.2.1
          have zQd0 := gd0.2.2.2.2.2.2.2
          clear gd0
          have bd0 := wd0.b
          refine hJ [19, 44, 57, 134, 136, 149, 202, 204, 217, 245, 301] 400 _ _ _ _ _ _ ?_
          have q9 : ((Int8.ofInt (8)).toInt32).toInt = 8 := by decide
          conv => whnf
          refine ⟨fun c23 => ?_, fun c23 => ?_⟩
          · have c23 : ((Int8.ofInt (8)).toInt32).toInt ≤ v3.toInt := c23
            rw [show v3.toNatClampNeg = 8 by omega] at d0
            exact j_use hF (iho (v2 + Int32.ofInt 1) H _ _ (by rw [ek, z_go_s]; exact d0) (by omega) (by (try dsimp only); omega) (by (try dsimp only); omega) (by omega) (by omega)) (And.intro rfl (And.intro rfl (And.intro rfl trivial)))
          · have c23 : ¬ ((Int8.ofInt (8)).toInt32).toInt ≤ v3.toInt := c23
            have t3 : (v3 + Int32.ofInt 1).toInt = v3.toInt + 1 := j_inc1 (by omega)
            have ct3 := j_clamp (i := v3 + Int32.ofInt 1) (by omega)
            have ej : (v3 + Int32.ofInt 1).toNatClampNeg = (v3.toNatClampNeg) + 1 := by omega
            have nx : ∀ (H : j_H) (cn sn : Nat), z_dz ρ m H4 H (z_a (z_fl (z_rq Z v2.toNatClampNeg) (v3.toNatClampNeg) (z_go (z_rl Z) v2.toNatClampNeg (z_go (z_gl Z) (Z.1 0).toNatClampNeg (z_fl (z_lq Z) 11 (Int64.ofNat 3643))))) (z_rq Z v2.toNatClampNeg v3.toNatClampNeg)) → cn ≤ 23 → sn ≤ 216 → J 149 [some (j_r (some m)), some (j_r (some r3)), some (j_i v2), some (j_i (v3 + Int32.ofInt 1))] [] H cn sn := fun H cn sn d hc hs => ihi (v3 + Int32.ofInt 1) H cn sn (by rw [ej, z_fl_s]; exact d) (by omega) hc hs (by omega) (by omega)
            have q5 : (Int32.ofInt (5)).toInt = 5 := by decide
            have q6 : ((Int8.ofInt (6)).toInt32).toInt = 6 := by decide
            conv => whnf
            refine ⟨fun c5 => ?_, fun c5 => ?_⟩
            · have c5 : v3.toInt = (Int32.ofInt (5)).toInt := c5
              have ev : v3.toNatClampNeg = 5 := by omega
              have ei : (((Int32.ofInt (2) * v2) + v3) - Int32.ofInt (5)).toInt = 2 * v2.toInt + v3.toInt - 5 := j_dbl5 (by omega) (by omega) (by omega) (by omega)
              have ec := j_clamp (i := ((Int32.ofInt (2) * v2) + v3) - Int32.ofInt (5)) (by omega)
              conv => whnf
              refine ⟨_, _, rfl, kd0, rfl, j_vp (by omega) (by omega), fun x173 ex173 => ?_⟩
              have hx : x173 = z_rq Z v2.toNatClampNeg v3.toNatClampNeg := by
                rw [ev, z_rq5, ← (sd0 v2.toNatClampNeg (by omega)).1, ← ex173]
                exact congrArg (j_it H r3) (by omega)
              conv => whnf
              refine ⟨wd0.km, rfl, _, _, _, _, _, _, c_Mo_addx wd0.km, ⟨Nat.le_of_ble_eq_true rfl, Nat.le_of_ble_eq_true rfl, by (try dsimp only); omega, by (try dsimp only); omega⟩, fun _ _ z => False.elim z, ?_⟩
              rintro v9 H19 ⟨rfl, eH19⟩
              have d19 : z_dz ρ m H4 H19 (z_a (z_fl (z_rq Z v2.toNatClampNeg) (v3.toNatClampNeg) (z_go (z_rl Z) v2.toNatClampNeg (z_go (z_gl Z) (Z.1 0).toNatClampNeg (z_fl (z_lq Z) 11 (Int64.ofNat 3643))))) (z_rq Z v2.toNatClampNeg v3.toNatClampNeg)) := d0.add wd0.km eH19 (congrArg Int32.toInt64 hx)
              clear eH19
              clear bd0 zGd0 zRd0 zQd0 nd0 sd0 ed0 kd0 wd0 d0
              have gd19 := z_dz.get w4 E4 kr nr hs d19
              have wd19 := gd19.1
              have kd19 := gd19.2.1
              have nd19 := gd19.2.2.1
              have ed19 := gd19.2.2.2.1
              have sd19 := gd19.2.2.2.2.1
              have zGd19 := gd19.2.2.2.2.2.1
              have zRd19 := gd19.2.2.2.2.2.2.1
              have zQd19 := gd19.2.2.2.2.2.2.2
              clear gd19
              have bd19 := wd19.b
              exact j_use hF (nx H19 _ _ d19 (by (try dsimp only); omega) (by (try dsimp only); omega)) (And.intro rfl (And.intro rfl (And.intro rfl (And.intro rfl trivial))))
            · have c5 : ¬ v3.toInt = (Int32.ofInt (5)).toInt := c5
              conv => whnf
              refine ⟨fun c6 => ?_, fun c6 => ?_⟩
              · have c6 : ¬ v3.toInt = ((Int8.ofInt (6)).toInt32).toInt := c6
                conv => whnf
                refine ⟨wd0.km, rfl, _, _, _, _, _, _, c_Mo_ofRunNowx wd0 (V.eq ed0) ⟨by omega, by omega⟩ ⟨by omega, by omega⟩, ⟨Nat.le_of_ble_eq_true rfl, Nat.le_of_ble_eq_true rfl, by (try dsimp only); omega, by (try dsimp only); omega⟩, fun _ _ z => False.elim z, ?_⟩
                rintro o9 h9 ⟨e9, er9⟩
                obtain ⟨r5, hr5⟩ : ∃ r, r = z_rq Z v2.toNatClampNeg v3.toNatClampNeg := ⟨_, rfl⟩
                obtain rfl : o9 = some (j_i r5) := er9.trans (congrArg (fun r => some (j_i r)) (by rw [hr5]; exact z_rq_c ed0 (show (v2.toNatClampNeg : Int) < (j_it H R 2).toInt by omega)))
                obtain rfl : H = h9 := e9.symm
                clear er9 e9
                conv => whnf
                refine ⟨wd0.km, rfl, _, _, _, _, _, _, c_Mo_addx wd0.km, ⟨Nat.le_of_ble_eq_true rfl, Nat.le_of_ble_eq_true rfl, by (try dsimp only); omega, by (try dsimp only); omega⟩, fun _ _ z => False.elim z, ?_⟩
                rintro v9 H20 ⟨rfl, eH20⟩
                have d20 : z_dz ρ m H4 H20 (z_a (z_fl (z_rq Z v2.toNatClampNeg) (v3.toNatClampNeg) (z_go (z_rl Z) v2.toNatClampNeg (z_go (z_gl Z) (Z.1 0).toNatClampNeg (z_fl (z_lq Z) 11 (Int64.ofNat 3643))))) (z_rq Z v2.toNatClampNeg v3.toNatClampNeg)) := d0.add wd0.km eH20 (congrArg Int32.toInt64 hr5)
                clear eH20
                clear bd0 zGd0 zRd0 zQd0 nd0 sd0 ed0 kd0 wd0 d0
                have gd20 := z_dz.get w4 E4 kr nr hs d20
                have wd20 := gd20.1
                have kd20 := gd20.2.1
                have nd20 := gd20.2.2.1
                have ed20 := gd20.2.2.2.1
                have sd20 := gd20.2.2.2.2.1
                have zGd20 := gd20.2.2.2.2.2.1
                have zRd20 := gd20.2.2.2.2.2.2.1
                have zQd20 := gd20.2.2.2.2.2.2.2
                clear gd20
                have bd20 := wd20.b
                exact j_use hF (nx H20 _ _ d20 (by (try dsimp only); omega) (by (try dsimp only); omega)) (And.intro rfl (And.intro rfl (And.intro rfl (And.intro rfl trivial))))
              · have c6 : ¬ ¬ v3.toInt = ((Int8.ofInt (6)).toInt32).toInt := c6
                have c6 := Decidable.not_not.mp c6
                have ev : v3.toNatClampNeg = 6 := by omega
                have ei : (((Int32.ofInt (2) * v2) + v3) - Int32.ofInt (5)).toInt = 2 * v2.toInt + v3.toInt - 5 := j_dbl5 (by omega) (by omega) (by omega) (by omega)
                have ec := j_clamp (i := ((Int32.ofInt (2) * v2) + v3) - Int32.ofInt (5)) (by omega)
                conv => whnf
                refine ⟨_, _, rfl, kd0, rfl, j_vp (by omega) (by omega), fun x173 ex173 => ?_⟩
                have hx : x173 = z_rq Z v2.toNatClampNeg v3.toNatClampNeg := by
                  rw [ev, z_rq6, ← (sd0 v2.toNatClampNeg (by omega)).2, ← ex173]
                  exact congrArg (j_it H r3) (by omega)
                conv => whnf
                refine ⟨wd0.km, rfl, _, _, _, _, _, _, c_Mo_addx wd0.km, ⟨Nat.le_of_ble_eq_true rfl, Nat.le_of_ble_eq_true rfl, by (try dsimp only); omega, by (try dsimp only); omega⟩, fun _ _ z => False.elim z, ?_⟩
                rintro v9 H21 ⟨rfl, eH21⟩
                have d21 : z_dz ρ m H4 H21 (z_a (z_fl (z_rq Z v2.toNatClampNeg) (v3.toNatClampNeg) (z_go (z_rl Z) v2.toNatClampNeg (z_go (z_gl Z) (Z.1 0).toNatClampNeg (z_fl (z_lq Z) 11 (Int64.ofNat 3643))))) (z_rq Z v2.toNatClampNeg v3.toNatClampNeg)) := d0.add wd0.km eH21 (congrArg Int32.toInt64 hx)
                clear eH21
                clear bd0 zGd0 zRd0 zQd0 nd0 sd0 ed0 kd0 wd0 d0
                have gd21 := z_dz.get w4 E4 kr nr hs d21
                have wd21 := gd21.1
                have kd21 := gd21.2.1
                have nd21 := gd21.2.2.1
                have ed21 := gd21.2.2.2.1
                have sd21 := gd21.2.2.2.2.1
                have zGd21 := gd21.2.2.2.2.2.1
                have zRd21 := gd21.2.2.2.2.2.2.1
                have zQd21 := gd21.2.2.2.2.2.2.2
                clear gd21
                have bd21 := wd21.b
                exact j_use hF (nx H21 _ _ d21 (by (try dsimp only); omega) (by (try dsimp only); omega)) (And.intro rfl (And.intro rfl (And.intro rfl (And.intro rfl trivial))))
      have qf := j_clamp (i := Int32.ofInt 0) (by decide)
      have qg : (Int32.ofInt 0).toInt = 0 := by decide
      exact j_use hF (L149 100 (Int32.ofInt 0) H _ _ (by rw [show (Int32.ofInt 0).toNatClampNeg = 0 by omega, z_fl_0]; exact d0) (by omega) (by (try dsimp only); omega) (by (try dsimp only); omega) (by omega) (by omega)) (And.intro rfl (And.intro rfl (And.intro rfl (And.intro rfl trivial))))
