/-! the model digest: 93.e.mdig -/
set_option maxHeartbeats 4000000 in
set_option maxRecDepth 20000 in
theorem d_t204 {J : j_J} {ρ : Nat → Nat} {H4 : j_H} {m P G R Q r3 : Nat} {Z : j_Z} {Pz : Option j_V → j_H → Prop} (hJ : j_Cl k_172 (j_ml 172, j_rt 172, 18, 807, 50, 400) Pz j_no J) (hF : j_Fg J) (w4 : j_MX ρ H4 m P G R Q) (E4 : z_eq (z_d H4 m P G R Q) Z) (kr : j_kd H4 r3 = some (.inr 0)) (nr : (j_ln H4 r3 : Int) = 2 * (j_it H4 R 2).toInt) (hs : ∀ k : Nat, (k : Int) < (j_it H4 R 2).toInt → j_it H4 r3 (2 * k) = z_er Z k ∧ j_it H4 r3 (2 * k + 1) = z_lr Z k) (V : z_V Z) (B : z_B Z) (L245 : ∀ (H : j_H) (cn sn : Nat), z_dz ρ m H4 H (z_go (z_pl Z) (Z.1 2).toNatClampNeg (z_go (z_rl Z) (Z.1 1).toNatClampNeg (z_go (z_gl Z) (Z.1 0).toNatClampNeg (z_fl (z_lq Z) 11 (Int64.ofNat 3643))))) → cn ≤ 23 → sn ≤ 216 → J 245 [some (j_r (some m)), some (j_r (some r3)), none, none] [] H cn sn) : ∀ (k : Nat) (v2 : Int32) (H : j_H) (cn sn : Nat), z_dz ρ m H4 H (z_go (z_pl Z) v2.toNatClampNeg (z_go (z_rl Z) (Z.1 1).toNatClampNeg (z_go (z_gl Z) (Z.1 0).toNatClampNeg (z_fl (z_lq Z) 11 (Int64.ofNat 3643))))) → v2.toInt ≤ (j_it H4 Q 2).toInt → cn ≤ 23 → sn ≤ 216 → 0 ≤ v2.toInt → (j_it H4 Q 2).toInt - v2.toInt < (k : Int) → J 204 [some (j_r (some m)), some (j_r (some r3)), some (j_i v2), none] [] H cn sn := by
  have b4 := w4.b
  intro k
  induction k with
  | zero => intro v2 H cn sn d0 hl hcn hsn hn hm; omega
  | succ k iho =>
    intro v2 H cn sn d0 hl hcn hsn hn hm
    have cl2 := j_clamp hn
    have gd0 := z_dz.get w4 E4 kr nr hs d0
    have wd0 := gd0.1
    have kd0 := gd0.2.1
    have nd0 := gd0.2.2.1
    have ed0 := gd0.2.2.2.1
    have sd0 := gd0.2.2.2.2.1
    have zGd0 := gd0.2.2.2.2.2.1
    have zRd0 := gd0.2.2.2.2.2.2.1
    have zQd0 := gd0.2.2.2.2.2.2.2
    clear gd0
    have bd0 := wd0.b
    refine hJ [19, 44, 57, 134, 136, 149, 202, 204, 217, 245, 301] 400 _ _ _ _ _ _ ?_
    conv => whnf
    refine ⟨_, rfl, wd0.km, fun o20 eo => ?_⟩
    obtain rfl : o20 = some Q := eo.symm.trans wd0.eQ
    conv => whnf
    refine ⟨wd0.lQ.1, rfl, _, _, _, _, _, _, c_AL_size (h := H) wd0.lQ j_Sc.rf j_sf_ok, ⟨Nat.le_of_ble_eq_true rfl, Nat.le_of_ble_eq_true rfl, by (try dsimp only); omega, by (try dsimp only); omega⟩, fun _ _ z => False.elim z, ?_⟩
    rintro v9 h9 ⟨e9, rfl⟩
    obtain rfl : H = h9 := e9.symm
    clear e9
    conv => whnf
    refine ⟨fun c22 => ?_, fun c22 => ?_⟩
    · have c22 : (j_it H Q 2).toInt ≤ v2.toInt := c22
      have en : v2.toNatClampNeg = (Z.1 2).toNatClampNeg := by
        have z := congrArg Int32.toInt (E4.1 2 (by decide))
        have z : (j_it H4 Q 2).toInt = (Z.1 2).toInt := z
        have := j_clamp (i := Z.1 2) (by omega)
        omega
      rw [en] at d0
      exact j_use hF (L245 H _ _ d0 (by (try dsimp only); omega) (by (try dsimp only); omega)) (And.intro rfl (And.intro rfl trivial))
    · have c22 : ¬ (j_it H Q 2).toInt ≤ v2.toInt := c22
      have c22 : ¬ (j_it H4 Q 2).toInt ≤ v2.toInt := by omega
      clear bd0 zGd0 zRd0 zQd0 nd0 sd0 ed0 kd0 wd0
      have t2 : (v2 + Int32.ofInt 1).toInt = v2.toInt + 1 := j_inc1 (by omega)
      have ct2 := j_clamp (i := v2 + Int32.ofInt 1) (by omega)
      have ek : (v2 + Int32.ofInt 1).toNatClampNeg = v2.toNatClampNeg + 1 := by omega
      have L217 : ∀ (k : Nat) (v3 : Int32) (H : j_H) (cn sn : Nat), z_dz ρ m H4 H (z_fl (fun w => z_pq Z v2.toNatClampNeg (w + 1)) (v3.toNatClampNeg - 1) (z_go (z_pl Z) v2.toNatClampNeg (z_go (z_rl Z) (Z.1 1).toNatClampNeg (z_go (z_gl Z) (Z.1 0).toNatClampNeg (z_fl (z_lq Z) 11 (Int64.ofNat 3643)))))) → v3.toInt ≤ 5 → cn ≤ 23 → sn ≤ 216 → 1 ≤ v3.toInt → 5 - v3.toInt < (k : Int) → J 217 [some (j_r (some m)), some (j_r (some r3)), some (j_i v2), some (j_i v3)] [] H cn sn := by
        intro k
        induction k with
        | zero => intro v3 H cn sn d0 hl hcn hsn hn hm; omega
        | succ k ihi =>
          intro v3 H cn sn d0 hl3 hcn hsn hn3 hm3
          have cl3 := j_clamp (i := v3) (by omega)
          have gd0 := z_dz.get w4 E4 kr nr hs d0
          have wd0 := gd0.1
          have kd0 := gd0.2.1
          have nd0 := gd0.2.2.1
          have ed0 := gd0.2.2.2.1
          have sd0 := gd0.2.2.2.2.1
          have zGd0 := gd0.2.2.2.2.2.1
          have zRd0 := gd0.2.2.2.2.2.2.1
          have zQd0 := gd0.2.2.2.2.2.2.2
          clear gd0
          have bd0 := wd0.b
          refine hJ [19, 44, 57, 134, 136, 149, 202, 204, 217, 245, 301] 400 _ _ _ _ _ _ ?_
          have q9 : (Int32.ofInt (5)).toInt = 5 := by decide
          conv => whnf
          refine ⟨fun c23 => ?_, fun c23 => ?_⟩
          · have c23 : (Int32.ofInt (5)).toInt ≤ v3.toInt := c23
            rw [show v3.toNatClampNeg - 1 = 4 by omega] at d0
            exact j_use hF (iho (v2 + Int32.ofInt 1) H _ _ (by rw [ek, z_go_s]; exact d0) (by omega) (by (try dsimp only); omega) (by (try dsimp only); omega) (by omega) (by omega)) (And.intro rfl (And.intro rfl (And.intro rfl trivial)))
          · have c23 : ¬ (Int32.ofInt (5)).toInt ≤ v3.toInt := c23
            have t3 : (v3 + Int32.ofInt 1).toInt = v3.toInt + 1 := j_inc1 (by omega)
            have ct3 := j_clamp (i := v3 + Int32.ofInt 1) (by omega)
            have ej : (v3 + Int32.ofInt 1).toNatClampNeg - 1 = (v3.toNatClampNeg - 1) + 1 := by omega
            have nx : ∀ (H : j_H) (cn sn : Nat), z_dz ρ m H4 H (z_a (z_fl (fun w => z_pq Z v2.toNatClampNeg (w + 1)) (v3.toNatClampNeg - 1) (z_go (z_pl Z) v2.toNatClampNeg (z_go (z_rl Z) (Z.1 1).toNatClampNeg (z_go (z_gl Z) (Z.1 0).toNatClampNeg (z_fl (z_lq Z) 11 (Int64.ofNat 3643)))))) (z_pq Z v2.toNatClampNeg v3.toNatClampNeg)) → cn ≤ 23 → sn ≤ 216 → J 217 [some (j_r (some m)), some (j_r (some r3)), some (j_i v2), some (j_i (v3 + Int32.ofInt 1))] [] H cn sn := fun H cn sn d hc hs => ihi (v3 + Int32.ofInt 1) H cn sn (by rw [ej, z_fl_s]; show z_dz ρ m H4 H (z_a (z_fl (fun w => z_pq Z v2.toNatClampNeg (w + 1)) (v3.toNatClampNeg - 1) (z_go (z_pl Z) v2.toNatClampNeg (z_go (z_rl Z) (Z.1 1).toNatClampNeg (z_go (z_gl Z) (Z.1 0).toNatClampNeg (z_fl (z_lq Z) 11 (Int64.ofNat 3643)))))) (z_pq Z v2.toNatClampNeg (v3.toNatClampNeg - 1 + 1))); rw [show v3.toNatClampNeg - 1 + 1 = v3.toNatClampNeg by omega]; exact d) (by omega) hc hs (by omega) (by omega)
            conv => whnf
            refine ⟨wd0.km, rfl, _, _, _, _, _, _, c_Mo_ofPrintNowx wd0 ⟨by omega, by omega⟩ ⟨by omega, by omega⟩, ⟨Nat.le_of_ble_eq_true rfl, Nat.le_of_ble_eq_true rfl, by (try dsimp only); omega, by (try dsimp only); omega⟩, fun _ _ z => False.elim z, ?_⟩
            rintro o9 h9 ⟨e9, er9⟩
            obtain ⟨r5, hr5⟩ : ∃ r, r = z_pq Z v2.toNatClampNeg v3.toNatClampNeg := ⟨_, rfl⟩
            obtain rfl : o9 = some (j_i r5) := er9.trans (congrArg (fun r => some (j_i r)) (by rw [hr5]; exact z_pq_c ed0 wd0.Pp (show (v2.toNatClampNeg : Int) < (j_it H Q 2).toInt by omega)))
            obtain rfl : H = h9 := e9.symm
            clear er9 e9
            conv => whnf
            refine ⟨wd0.km, rfl, _, _, _, _, _, _, c_Mo_addx wd0.km, ⟨Nat.le_of_ble_eq_true rfl, Nat.le_of_ble_eq_true rfl, by (try dsimp only); omega, by (try dsimp only); omega⟩, fun _ _ z => False.elim z, ?_⟩
            rintro v9 H18 ⟨rfl, eH18⟩
            have d18 : z_dz ρ m H4 H18 (z_a (z_fl (fun w => z_pq Z v2.toNatClampNeg (w + 1)) (v3.toNatClampNeg - 1) (z_go (z_pl Z) v2.toNatClampNeg (z_go (z_rl Z) (Z.1 1).toNatClampNeg (z_go (z_gl Z) (Z.1 0).toNatClampNeg (z_fl (z_lq Z) 11 (Int64.ofNat 3643)))))) (z_pq Z v2.toNatClampNeg v3.toNatClampNeg)) := d0.add wd0.km eH18 (congrArg Int32.toInt64 hr5)
            clear eH18
            clear bd0 zGd0 zRd0 zQd0 nd0 sd0 ed0 kd0 wd0 d0
            have gd18 := z_dz.get w4 E4 kr nr hs d18
            have wd18 := gd18.1
            have kd18 := gd18.2.1
            have nd18 := gd18.2.2.1
            have ed18 := gd18.2.2.2.1
            have sd18 := gd18.2.2.2.2.1
            have zGd18 := gd18.2.2.2.2.2.1
            have zRd18 := gd18.2.2.2.2.2.2.1
            have zQd18 := gd18.2.2.2.2.2.2.2
            clear gd18
            have bd18 := wd18.b
            exact j_use hF (nx H18 _ _ d18 (by (try dsimp only); omega) (by (try dsimp only); omega)) (And.intro rfl (And.intro rfl (And.intro rfl (And.intro rfl trivial))))
      have qf := j_clamp (i := Int32.ofInt 1) (by decide)
      have qg : (Int32.ofInt 1).toInt = 1 := by decide
      exact j_use hF (L217 100 (Int32.ofInt 1) H _ _ (by rw [show (Int32.ofInt 1).toNatClampNeg - 1 = 0 by omega, z_fl_0]; exact d0) (by omega) (by (try dsimp only); omega) (by (try dsimp only); omega) (by omega) (by omega)) (And.intro rfl (And.intro rfl (And.intro rfl (And.intro rfl trivial))))
