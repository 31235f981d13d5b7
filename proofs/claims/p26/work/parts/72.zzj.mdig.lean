/-! the model digest: 93.g.mdig -/
set_option maxHeartbeats 4000000 in
set_option maxRecDepth 20000 in
theorem d_t44 {J : j_J} {ρ : Nat → Nat} {H4 : j_H} {m P G R Q r3 : Nat} {Z : j_Z} {Pz : Option j_V → j_H → Prop} (hJ : j_Cl k_172 (j_ml 172, j_rt 172, 18, 807, 50, 400) Pz j_no J) (hF : j_Fg J) (w4 : j_MX ρ H4 m P G R Q) (E4 : z_eq (z_d H4 m P G R Q) Z) (kr : j_kd H4 r3 = some (.inr 0)) (nr : (j_ln H4 r3 : Int) = 2 * (j_it H4 R 2).toInt) (hs : ∀ k : Nat, (k : Int) < (j_it H4 R 2).toInt → j_it H4 r3 (2 * k) = z_er Z k ∧ j_it H4 r3 (2 * k + 1) = z_lr Z k) (V : z_V Z) (B : z_B Z) (L136 : ∀ (k : Nat) (v2 : Int32) (H : j_H) (cn sn : Nat), z_dz ρ m H4 H (z_go (z_rl Z) v2.toNatClampNeg (z_go (z_gl Z) (Z.1 0).toNatClampNeg (z_fl (z_lq Z) 11 (Int64.ofNat 3643)))) → v2.toInt ≤ (j_it H4 R 2).toInt → cn ≤ 23 → sn ≤ 216 → 0 ≤ v2.toInt → (j_it H4 R 2).toInt - v2.toInt < (k : Int) → J 136 [some (j_r (some m)), some (j_r (some r3)), some (j_i v2), none] [] H cn sn) : ∀ (k : Nat) (v2 : Int32) (H : j_H) (cn sn : Nat), z_dz ρ m H4 H (z_go (z_gl Z) v2.toNatClampNeg (z_fl (z_lq Z) 11 (Int64.ofNat 3643))) → v2.toInt ≤ (j_it H4 G 2).toInt → cn ≤ 23 → sn ≤ 216 → 0 ≤ v2.toInt → (j_it H4 G 2).toInt - v2.toInt < (k : Int) → J 44 [some (j_r (some m)), some (j_r (some r3)), some (j_i v2), none] [] H cn sn := by
  have b4 := w4.b
  have L134 : ∀ (H : j_H) (cn sn : Nat), z_dz ρ m H4 H (z_go (z_gl Z) (Z.1 0).toNatClampNeg (z_fl (z_lq Z) 11 (Int64.ofNat 3643))) → cn ≤ 23 → sn ≤ 216 → J 134 [some (j_r (some m)), some (j_r (some r3)), none, none] [] H cn sn := by
    intro H cn sn d0 hcn hsn
    refine hJ [19, 44, 57, 134, 136, 149, 202, 204, 217, 245, 301] 400 _ _ _ _ _ _ ?_
    exact j_use hF (L136 100 (Int32.ofInt 0) H _ _ (by rw [show (Int32.ofInt 0).toNatClampNeg = 0 by decide, z_go_0]; exact d0) (by rw [show (Int32.ofInt 0).toInt = 0 by decide]; omega) (by (try dsimp only); omega) (by (try dsimp only); omega) (by decide) (by rw [show (Int32.ofInt 0).toInt = 0 by decide]; omega)) (And.intro rfl (And.intro rfl (And.intro rfl trivial)))
  intro k
  induction k with
  | zero => intro v2 H cn sn d0 hl hcn hsn hn hm; omega
  | succ k iho =>
    intro v2 H cn sn d0 hl hcn hsn hn hm
    have cl2 := j_clamp hn
    have gd0 := z_dz.get w4 E4 kr nr hs d0
    have wd0 := gd0.1
    have kd0 := gd0.2.1
    have nd0 := gd0.2.2.1
    have ed0 := gd0.2.2.2.1
    have sd0 := gd0.2.2.2.2.1
    have zGd0 := gd0.2.2.2.2.2.1
    have zRd0 := gd0.2.2.2.2.2.2.1
    have zQd0 := gd0.2.2.2.2.2.2.2
    clear gd0
    have bd0 := wd0.b
    refine hJ [19, 44, 57, 134, 136, 149, 202, 204, 217, 245, 301] 400 _ _ _ _ _ _ ?_
    conv => whnf
    refine ⟨_, rfl, wd0.km, fun o20 eo => ?_⟩
    obtain rfl : o20 = some G := eo.symm.trans wd0.eG
    conv => whnf
    refine ⟨wd0.lG.1, rfl, _, _, _, _, _, _, c_AL_size (h := H) wd0.lG j_Sc.rf j_sf_ok, ⟨Nat.le_of_ble_eq_true rfl, Nat.le_of_ble_eq_true rfl, by (try dsimp only); omega, by (try dsimp only); omega⟩, fun _ _ z => False.elim z, ?_⟩
    rintro v9 h9 ⟨e9, rfl⟩
    obtain rfl : H = h9 := e9.symm
    clear e9
    conv => whnf
    refine ⟨fun c22 => ?_, fun c22 => ?_⟩
    · have c22 : (j_it H G 2).toInt ≤ v2.toInt := c22
      have en : v2.toNatClampNeg = (Z.1 0).toNatClampNeg := by
        have z := congrArg Int32.toInt (E4.1 0 (by decide))
        have z : (j_it H4 G 2).toInt = (Z.1 0).toInt := z
        have := j_clamp (i := Z.1 0) (by omega)
        omega
      rw [en] at d0
      exact j_use hF (L134 H _ _ d0 (by (try dsimp only); omega) (by (try dsimp only); omega)) (And.intro rfl (And.intro rfl trivial))
    · have c22 : ¬ (j_it H G 2).toInt ≤ v2.toInt := c22
      have c22 : ¬ (j_it H4 G 2).toInt ≤ v2.toInt := by omega
      clear bd0 zGd0 zRd0 zQd0 nd0 sd0 ed0 kd0 wd0
      have t2 : (v2 + Int32.ofInt 1).toInt = v2.toInt + 1 := j_inc1 (by omega)
      have ct2 := j_clamp (i := v2 + Int32.ofInt 1) (by omega)
      have ek : (v2 + Int32.ofInt 1).toNatClampNeg = v2.toNatClampNeg + 1 := by omega
      have L57 : ∀ (k : Nat) (v3 : Int32) (H : j_H) (cn sn : Nat), z_dz ρ m H4 H (z_fl (z_gq Z v2.toNatClampNeg) (v3.toNatClampNeg) (z_go (z_gl Z) v2.toNatClampNeg (z_fl (z_lq Z) 11 (Int64.ofNat 3643)))) → v3.toInt ≤ 10 → cn ≤ 23 → sn ≤ 216 → 0 ≤ v3.toInt → 10 - v3.toInt < (k : Int) → J 57 [some (j_r (some m)), some (j_r (some r3)), some (j_i v2), some (j_i v3)] [] H cn sn := by
        intro k
        induction k with
        | zero => intro v3 H cn sn d0 hl hcn hsn hn hm; omega
        | succ k ihi =>
          intro v3 H cn sn d0 hl3 hcn hsn hn3 hm3
          have cl3 := j_clamp (i := v3) (by omega)
          have gd0 := z_dz.get w4 E4 kr nr hs d0
          have wd0 := gd0.1
          have kd0 := gd0.2.1
          have nd0 := gd0.2.2.1
          have ed0 := gd0.2.2.2.1
          have sd0 := gd0.2.2.2.2.1
          have zGd0 := gd0.2.2.2.2.2.1
          have zRd0 := gd0.2.2.2.2.2.2.1
          have zQd0 := gd0.2.2.2.2.2.2.2
          clear gd0
          have bd0 := wd0.b
          refine hJ [19, 44, 57, 134, 136, 149, 202, 204, 217, 245, 301] 400 _ _ _ _ _ _ ?_
          have q9 : ((Int8.ofInt (10)).toInt32).toInt = 10 := by decide
          conv => whnf
          refine ⟨fun c23 => ?_, fun c23 => ?_⟩
          · have c23 : ((Int8.ofInt (10)).toInt32).toInt ≤ v3.toInt := c23
            rw [show v3.toNatClampNeg = 10 by omega] at d0
            conv => whnf
            refine ⟨wd0.km, rfl, _, _, _, _, _, _, c_Mo_earlyOfx wd0 kd0 (by omega) cl2.symm ed0 (fun k hk => (sd0 k hk).1), ⟨Nat.le_of_ble_eq_true rfl, Nat.le_of_ble_eq_true rfl, by (try dsimp only); omega, by (try dsimp only); omega⟩, fun _ _ z => False.elim z, ?_⟩
            rintro o9 h9 ⟨e9, er9⟩
            obtain ⟨r22, hr22⟩ : ∃ r, r = z_gE Z v2.toNatClampNeg := ⟨_, rfl⟩
            obtain rfl : o9 = some (j_i r22) := er9.trans (congrArg (fun r => some (j_i r)) (by rw [hr22]; rfl))
            obtain rfl : H = h9 := e9.symm
            clear er9 e9
            conv => whnf
            refine ⟨wd0.km, rfl, _, _, _, _, _, _, c_Mo_addx wd0.km, ⟨Nat.le_of_ble_eq_true rfl, Nat.le_of_ble_eq_true rfl, by (try dsimp only); omega, by (try dsimp only); omega⟩, fun _ _ z => False.elim z, ?_⟩
            rintro v9 H23 ⟨rfl, eH23⟩
            have d23 : z_dz ρ m H4 H23 (z_a (z_fl (z_gq Z v2.toNatClampNeg) 10 (z_go (z_gl Z) v2.toNatClampNeg (z_fl (z_lq Z) 11 (Int64.ofNat 3643)))) (z_gE Z v2.toNatClampNeg)) := d0.add wd0.km eH23 (congrArg Int32.toInt64 hr22)
            clear eH23
            clear bd0 zGd0 zRd0 zQd0 nd0 sd0 ed0 kd0 wd0 d0
            have gd23 := z_dz.get w4 E4 kr nr hs d23
            have wd23 := gd23.1
            have kd23 := gd23.2.1
            have nd23 := gd23.2.2.1
            have ed23 := gd23.2.2.2.1
            have sd23 := gd23.2.2.2.2.1
            have zGd23 := gd23.2.2.2.2.2.1
            have zRd23 := gd23.2.2.2.2.2.2.1
            have zQd23 := gd23.2.2.2.2.2.2.2
            clear gd23
            have bd23 := wd23.b
            conv => whnf
            refine ⟨wd23.km, rfl, _, _, _, _, _, _, c_Mo_lateOfx wd23 kd23 (by omega) cl2.symm ed23 (fun k hk => (sd23 k hk).2), ⟨Nat.le_of_ble_eq_true rfl, Nat.le_of_ble_eq_true rfl, by (try dsimp only); omega, by (try dsimp only); omega⟩, fun _ _ z => False.elim z, ?_⟩
            rintro o9 h9 ⟨e9, er9⟩
            obtain ⟨r24, hr24⟩ : ∃ r, r = z_gL Z v2.toNatClampNeg := ⟨_, rfl⟩
            obtain rfl : o9 = some (j_i r24) := er9.trans (congrArg (fun r => some (j_i r)) (by rw [hr24]; rfl))
            obtain rfl : H23 = h9 := e9.symm
            clear er9 e9
            conv => whnf
            refine ⟨wd23.km, rfl, _, _, _, _, _, _, c_Mo_addx wd23.km, ⟨Nat.le_of_ble_eq_true rfl, Nat.le_of_ble_eq_true rfl, by (try dsimp only); omega, by (try dsimp only); omega⟩, fun _ _ z => False.elim z, ?_⟩
            rintro v9 H25 ⟨rfl, eH25⟩
            have d25 : z_dz ρ m H4 H25 (z_a (z_a (z_fl (z_gq Z v2.toNatClampNeg) 10 (z_go (z_gl Z) v2.toNatClampNeg (z_fl (z_lq Z) 11 (Int64.ofNat 3643)))) (z_gE Z v2.toNatClampNeg)) (z_gL Z v2.toNatClampNeg)) := d23.add wd23.km eH25 (congrArg Int32.toInt64 hr24)
            clear eH25
            clear bd23 zGd23 zRd23 zQd23 nd23 sd23 ed23 kd23 wd23 d23
            have gd25 := z_dz.get w4 E4 kr nr hs d25
            have wd25 := gd25.1
            have kd25 := gd25.2.1
            have nd25 := gd25.2.2.1
            have ed25 := gd25.2.2.2.1
            have sd25 := gd25.2.2.2.2.1
            have zGd25 := gd25.2.2.2.2.2.1
            have zRd25 := gd25.2.2.2.2.2.2.1
            have zQd25 := gd25.2.2.2.2.2.2.2
            clear gd25
            have bd25 := wd25.b
            conv => whnf
            refine ⟨wd25.km, rfl, _, _, _, _, _, _, c_Mo_narrowedNowx wd25 (B.eq ed25).1 kd25 (by omega) ⟨by omega, by omega⟩ ed25 sd25, ⟨Nat.le_of_ble_eq_true rfl, Nat.le_of_ble_eq_true rfl, by (try dsimp only); omega, by (try dsimp only); omega⟩, fun _ _ z => False.elim z, ?_⟩
            rintro o9 h9 ⟨e9, er9⟩
            obtain ⟨r26, hr26⟩ : ∃ r, r = z_nE Z v2.toNatClampNeg := ⟨_, rfl⟩
            obtain rfl : o9 = some (j_i r26) := er9.trans (congrArg (fun r => some (j_i r)) (by rw [hr26]; exact if_pos (show (Int32.ofInt 0).toInt = 0 by decide)))
            obtain rfl : H25 = h9 := e9.symm
            clear er9 e9
            conv => whnf
            refine ⟨wd25.km, rfl, _, _, _, _, _, _, c_Mo_addx wd25.km, ⟨Nat.le_of_ble_eq_true rfl, Nat.le_of_ble_eq_true rfl, by (try dsimp only); omega, by (try dsimp only); omega⟩, fun _ _ z => False.elim z, ?_⟩
            rintro v9 H27 ⟨rfl, eH27⟩
            have d27 : z_dz ρ m H4 H27 (z_a (z_a (z_a (z_fl (z_gq Z v2.toNatClampNeg) 10 (z_go (z_gl Z) v2.toNatClampNeg (z_fl (z_lq Z) 11 (Int64.ofNat 3643)))) (z_gE Z v2.toNatClampNeg)) (z_gL Z v2.toNatClampNeg)) (z_nE Z v2.toNatClampNeg)) := d25.add wd25.km eH27 (congrArg Int32.toInt64 hr26)
            clear eH27
            clear bd25 zGd25 zRd25 zQd25 nd25 sd25 ed25 kd25 wd25 d25
            have gd27 := z_dz.get w4 E4 kr nr hs d27
            have wd27 := gd27.1
            have kd27 := gd27.2.1
            have nd27 := gd27.2.2.1
            have ed27 := gd27.2.2.2.1
            have sd27 := gd27.2.2.2.2.1
            have zGd27 := gd27.2.2.2.2.2.1
            have zRd27 := gd27.2.2.2.2.2.2.1
            have zQd27 := gd27.2.2.2.2.2.2.2
            clear gd27
            have bd27 := wd27.b
            conv => whnf
            refine ⟨wd27.km, rfl, _, _, _, _, _, _, c_Mo_narrowedNowx wd27 (B.eq ed27).1 kd27 (by omega) ⟨by omega, by omega⟩ ed27 sd27, ⟨Nat.le_of_ble_eq_true rfl, Nat.le_of_ble_eq_true rfl, by (try dsimp only); omega, by (try dsimp only); omega⟩, fun _ _ z => False.elim z, ?_⟩
            rintro o9 h9 ⟨e9, er9⟩
            obtain ⟨r28, hr28⟩ : ∃ r, r = z_nL Z v2.toNatClampNeg := ⟨_, rfl⟩
            obtain rfl : o9 = some (j_i r28) := er9.trans (congrArg (fun r => some (j_i r)) (by rw [hr28]; exact if_neg (show ¬ (Int32.ofInt 1).toInt = 0 by decide)))
            obtain rfl : H27 = h9 := e9.symm
            clear er9 e9
            conv => whnf
            refine ⟨wd27.km, rfl, _, _, _, _, _, _, c_Mo_addx wd27.km, ⟨Nat.le_of_ble_eq_true rfl, Nat.le_of_ble_eq_true rfl, by (try dsimp only); omega, by (try dsimp only); omega⟩, fun _ _ z => False.elim z, ?_⟩
            rintro v9 H29 ⟨rfl, eH29⟩
            have d29 : z_dz ρ m H4 H29 (z_a (z_a (z_a (z_a (z_fl (z_gq Z v2.toNatClampNeg) 10 (z_go (z_gl Z) v2.toNatClampNeg (z_fl (z_lq Z) 11 (Int64.ofNat 3643)))) (z_gE Z v2.toNatClampNeg)) (z_gL Z v2.toNatClampNeg)) (z_nE Z v2.toNatClampNeg)) (z_nL Z v2.toNatClampNeg)) := d27.add wd27.km eH29 (congrArg Int32.toInt64 hr28)
            clear eH29
            clear bd27 zGd27 zRd27 zQd27 nd27 sd27 ed27 kd27 wd27 d27
            have gd29 := z_dz.get w4 E4 kr nr hs d29
            have wd29 := gd29.1
            have kd29 := gd29.2.1
            have nd29 := gd29.2.2.1
            have ed29 := gd29.2.2.2.1
            have sd29 := gd29.2.2.2.2.1
            have zGd29 := gd29.2.2.2.2.2.1
            have zRd29 := gd29.2.2.2.2.2.2.1
            have zQd29 := gd29.2.2.2.2.2.2.2
            clear gd29
            have bd29 := wd29.b
            exact j_use hF (iho (v2 + Int32.ofInt 1) H29 _ _ (by rw [ek, z_go_s]; exact d29) (by omega) (by (try dsimp only); omega) (by (try dsimp only); omega) (by omega) (by omega)) (And.intro rfl (And.intro rfl (And.intro rfl trivial)))
          · have c23 : ¬ ((Int8.ofInt (10)).toInt32).toInt ≤ v3.toInt := c23
            have t3 : (v3 + Int32.ofInt 1).toInt = v3.toInt + 1 := j_inc1 (by omega)
            have ct3 := j_clamp (i := v3 + Int32.ofInt 1) (by omega)
            have ej : (v3 + Int32.ofInt 1).toNatClampNeg = (v3.toNatClampNeg) + 1 := by omega
            have nx : ∀ (H : j_H) (cn sn : Nat), z_dz ρ m H4 H (z_a (z_fl (z_gq Z v2.toNatClampNeg) (v3.toNatClampNeg) (z_go (z_gl Z) v2.toNatClampNeg (z_fl (z_lq Z) 11 (Int64.ofNat 3643)))) (z_gq Z v2.toNatClampNeg v3.toNatClampNeg)) → cn ≤ 23 → sn ≤ 216 → J 57 [some (j_r (some m)), some (j_r (some r3)), some (j_i v2), some (j_i (v3 + Int32.ofInt 1))] [] H cn sn := fun H cn sn d hc hs => ihi (v3 + Int32.ofInt 1) H cn sn (by rw [ej, z_fl_s]; exact d) (by omega) hc hs (by omega) (by omega)
            conv => whnf
            refine ⟨wd0.km, rfl, _, _, _, _, _, _, c_Mo_ofGrainNowx wd0 ⟨by omega, by omega⟩ ⟨by omega, by omega⟩, ⟨Nat.le_of_ble_eq_true rfl, Nat.le_of_ble_eq_true rfl, by (try dsimp only); omega, by (try dsimp only); omega⟩, fun _ _ z => False.elim z, ?_⟩
            rintro o9 h9 ⟨e9, er9⟩
            obtain ⟨r5, hr5⟩ : ∃ r, r = z_gq Z v2.toNatClampNeg v3.toNatClampNeg := ⟨_, rfl⟩
            obtain rfl : o9 = some (j_i r5) := er9.trans (congrArg (fun r => some (j_i r)) (by rw [hr5]; exact z_gq_c ed0 wd0.b.2.1.1 (show (v2.toNatClampNeg : Int) < (j_it H G 2).toInt by omega)))
            obtain rfl : H = h9 := e9.symm
            clear er9 e9
            conv => whnf
            refine ⟨wd0.km, rfl, _, _, _, _, _, _, c_Mo_addx wd0.km, ⟨Nat.le_of_ble_eq_true rfl, Nat.le_of_ble_eq_true rfl, by (try dsimp only); omega, by (try dsimp only); omega⟩, fun _ _ z => False.elim z, ?_⟩
            rintro v9 H30 ⟨rfl, eH30⟩
            have d30 : z_dz ρ m H4 H30 (z_a (z_fl (z_gq Z v2.toNatClampNeg) (v3.toNatClampNeg) (z_go (z_gl Z) v2.toNatClampNeg (z_fl (z_lq Z) 11 (Int64.ofNat 3643)))) (z_gq Z v2.toNatClampNeg v3.toNatClampNeg)) := d0.add wd0.km eH30 (congrArg Int32.toInt64 hr5)
            clear eH30
            clear bd0 zGd0 zRd0 zQd0 nd0 sd0 ed0 kd0 wd0 d0
            have gd30 := z_dz.get w4 E4 kr nr hs d30
            have wd30 := gd30.1
            have kd30 := gd30.2.1
            have nd30 := gd30.2.2.1
            have ed30 := gd30.2.2.2.1
            have sd30 := gd30.2.2.2.2.1
            have zGd30 := gd30.2.2.2.2.2.1
            have zRd30 := gd30.2.2.2.2.2.2.1
            have zQd30 := gd30.2.2.2.2.2.2.2
            clear gd30
            have bd30 := wd30.b
            exact j_use hF (nx H30 _ _ d30 (by (try dsimp only); omega) (by (try dsimp only); omega)) (And.intro rfl (And.intro rfl (And.intro rfl (And.intro rfl trivial))))
      have qf := j_clamp (i := Int32.ofInt 0) (by decide)
      have qg : (Int32.ofInt 0).toInt = 0 := by decide
      exact j_use hF (L57 100 (Int32.ofInt 0) H _ _ (by rw [show (Int32.ofInt 0).toNatClampNeg = 0 by omega, z_fl_0]; exact d0) (by omega) (by (try dsimp only); omega) (by (try dsimp only); omega) (by omega) (by omega)) (And.intro rfl (And.intro rfl (And.intro rfl (And.intro rfl trivial))))
