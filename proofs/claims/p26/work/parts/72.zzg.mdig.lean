/-! the model digest: 93.d.mdig -/
set_option maxHeartbeats 4000000 in
set_option maxRecDepth 20000 in
theorem d_t301 {J : j_J} {ρ : Nat → Nat} {H4 : j_H} {m P G R Q r3 : Nat} {Z : j_Z} {Pz : Option j_V → j_H → Prop} (hJ : j_Cl k_172 (j_ml 172, j_rt 172, 18, 807, 50, 400) Pz j_no J) (hF : j_Fg J) (w4 : j_MX ρ H4 m P G R Q) (E4 : z_eq (z_d H4 m P G R Q) Z) (kr : j_kd H4 r3 = some (.inr 0)) (nr : (j_ln H4 r3 : Int) = 2 * (j_it H4 R 2).toInt) (hs : ∀ k : Nat, (k : Int) < (j_it H4 R 2).toInt → j_it H4 r3 (2 * k) = z_er Z k ∧ j_it H4 r3 (2 * k + 1) = z_lr Z k) (V : z_V Z) (B : z_B Z) (hP : ∀ H, z_dz ρ m H4 H (z_dig Z) → Pz (some (j_l (z_dig Z))) H) : ∀ (H : j_H) (cn sn : Nat), z_dz ρ m H4 H (z_a (z_a (z_a (z_go (z_pl Z) (Z.1 2).toNatClampNeg (z_go (z_rl Z) (Z.1 1).toNatClampNeg (z_go (z_gl Z) (Z.1 0).toNatClampNeg (z_fl (z_lq Z) 11 (Int64.ofNat 3643))))) (z_fw Z)) (z_bans Z (Int32.ofInt 1))) (z_bans Z (Int32.ofInt 0))) → cn ≤ 25 → sn ≤ 232 → J 301 [some (j_r (some m)), some (j_r (some r3)), none, none] [] H cn sn := by
  have b4 := w4.b
  intro H cn sn d0 hcn hsn
  have gd0 := z_dz.get w4 E4 kr nr hs d0
  have wd0 := gd0.1
  have kd0 := gd0.2.1
  have nd0 := gd0.2.2.1
  have ed0 := gd0.2.2.2.1
  have sd0 := gd0.2.2.2.2.1
  have zGd0 := gd0.2.2.2.2.2.1
  have zRd0 := gd0.2.2.2.2.2.2.1
  have zQd0 := gd0.2.2.2.2.2.2.2
  clear gd0
  have bd0 := wd0.b
  refine hJ [19, 44, 57, 134, 136, 149, 202, 204, 217, 245, 301] 400 _ _ _ _ _ _ ?_
  conv => whnf
  refine ⟨wd0.km, rfl, _, _, _, _, _, _, c_Mo_isSoundNowx wd0 kd0 (by omega) (B.eq ed0) (z_dz.sd ed0 sd0), ⟨Nat.le_of_ble_eq_true rfl, Nat.le_of_ble_eq_true rfl, by (try dsimp only); omega, by (try dsimp only); omega⟩, fun _ _ z => False.elim z, ?_⟩
  rintro v9 H16 ⟨⟨f16, t16, a16⟩, rfl⟩
  have d16 := d0.st f16 t16 a16
  clear bd0 zGd0 zRd0 zQd0 nd0 sd0 ed0 kd0 wd0 d0
  have gd16 := z_dz.get w4 E4 kr nr hs d16
  have wd16 := gd16.1
  have kd16 := gd16.2.1
  have nd16 := gd16.2.2.1
  have ed16 := gd16.2.2.2.1
  have sd16 := gd16.2.2.2.2.1
  have zGd16 := gd16.2.2.2.2.2.1
  have zRd16 := gd16.2.2.2.2.2.2.1
  have zQd16 := gd16.2.2.2.2.2.2.2
  clear gd16
  have bd16 := wd16.b
  conv => whnf
  refine ⟨fun c => absurd (show (Int32.ofInt 1).toInt = 0 from c) (by decide), fun _ => ?_⟩
  conv => whnf
  refine ⟨wd16.km, rfl, _, _, _, _, _, _, c_Mo_addx wd16.km, ⟨Nat.le_of_ble_eq_true rfl, Nat.le_of_ble_eq_true rfl, by (try dsimp only); omega, by (try dsimp only); omega⟩, fun _ _ z => False.elim z, ?_⟩
  rintro v9 H17 ⟨rfl, eH17⟩
  have d17 : z_dz ρ m H4 H17 (z_a (z_a (z_a (z_a (z_go (z_pl Z) (Z.1 2).toNatClampNeg (z_go (z_rl Z) (Z.1 1).toNatClampNeg (z_go (z_gl Z) (Z.1 0).toNatClampNeg (z_fl (z_lq Z) 11 (Int64.ofNat 3643))))) (z_fw Z)) (z_bans Z (Int32.ofInt 1))) (z_bans Z (Int32.ofInt 0))) (Int32.ofInt 1)) := d16.add wd16.km eH17 (by decide)
  clear eH17
  clear bd16 zGd16 zRd16 zQd16 nd16 sd16 ed16 kd16 wd16 d16
  have gd17 := z_dz.get w4 E4 kr nr hs d17
  have wd17 := gd17.1
  have kd17 := gd17.2.1
  have nd17 := gd17.2.2.1
  have ed17 := gd17.2.2.2.1
  have sd17 := gd17.2.2.2.2.1
  have zGd17 := gd17.2.2.2.2.2.1
  have zRd17 := gd17.2.2.2.2.2.2.1
  have zQd17 := gd17.2.2.2.2.2.2.2
  clear gd17
  have bd17 := wd17.b
  conv => whnf
  refine ⟨_, rfl, wd17.km, fun x7 ex7 => ?_⟩
  conv => whnf
  obtain rfl := ex7.symm.trans d17.2.2.2
  exact ⟨rfl, ⟨by (try dsimp only); omega, by (try dsimp only); omega⟩, hP _ d17⟩
set_option maxHeartbeats 4000000 in
set_option maxRecDepth 20000 in
theorem d_t245 {J : j_J} {ρ : Nat → Nat} {H4 : j_H} {m P G R Q r3 : Nat} {Z : j_Z} {Pz : Option j_V → j_H → Prop} (hJ : j_Cl k_172 (j_ml 172, j_rt 172, 18, 807, 50, 400) Pz j_no J) (hF : j_Fg J) (w4 : j_MX ρ H4 m P G R Q) (E4 : z_eq (z_d H4 m P G R Q) Z) (kr : j_kd H4 r3 = some (.inr 0)) (nr : (j_ln H4 r3 : Int) = 2 * (j_it H4 R 2).toInt) (hs : ∀ k : Nat, (k : Int) < (j_it H4 R 2).toInt → j_it H4 r3 (2 * k) = z_er Z k ∧ j_it H4 r3 (2 * k + 1) = z_lr Z k) (V : z_V Z) (B : z_B Z) (L301 : ∀ (H : j_H) (cn sn : Nat), z_dz ρ m H4 H (z_a (z_a (z_a (z_go (z_pl Z) (Z.1 2).toNatClampNeg (z_go (z_rl Z) (Z.1 1).toNatClampNeg (z_go (z_gl Z) (Z.1 0).toNatClampNeg (z_fl (z_lq Z) 11 (Int64.ofNat 3643))))) (z_fw Z)) (z_bans Z (Int32.ofInt 1))) (z_bans Z (Int32.ofInt 0))) → cn ≤ 25 → sn ≤ 232 → J 301 [some (j_r (some m)), some (j_r (some r3)), none, none] [] H cn sn) : ∀ (H : j_H) (cn sn : Nat), z_dz ρ m H4 H (z_go (z_pl Z) (Z.1 2).toNatClampNeg (z_go (z_rl Z) (Z.1 1).toNatClampNeg (z_go (z_gl Z) (Z.1 0).toNatClampNeg (z_fl (z_lq Z) 11 (Int64.ofNat 3643))))) → cn ≤ 23 → sn ≤ 216 → J 245 [some (j_r (some m)), some (j_r (some r3)), none, none] [] H cn sn := by
  have b4 := w4.b
  intro H cn sn d0 hcn hsn
  have gd0 := z_dz.get w4 E4 kr nr hs d0
  have wd0 := gd0.1
  have kd0 := gd0.2.1
  have nd0 := gd0.2.2.1
  have ed0 := gd0.2.2.2.1
  have sd0 := gd0.2.2.2.2.1
  have zGd0 := gd0.2.2.2.2.2.1
  have zRd0 := gd0.2.2.2.2.2.2.1
  have zQd0 := gd0.2.2.2.2.2.2.2
  clear gd0
  have bd0 := wd0.b
  refine hJ [19, 44, 57, 134, 136, 149, 202, 204, 217, 245, 301] 400 _ _ _ _ _ _ ?_
  conv => whnf
  refine ⟨wd0.km, rfl, _, _, _, _, _, _, c_Mo_fewestNowx wd0 kd0 (by omega) ed0 sd0, ⟨Nat.le_of_ble_eq_true rfl, Nat.le_of_ble_eq_true rfl, by (try dsimp only); omega, by (try dsimp only); omega⟩, fun _ _ z => False.elim z, ?_⟩
  rintro o9 H1 ⟨⟨f1, t1, a1⟩, er9⟩
  obtain ⟨r1, hr1⟩ : ∃ r, r = z_fw Z := ⟨_, rfl⟩
  obtain rfl : o9 = some (j_i r1) := er9.trans (congrArg (fun r => some (j_i r)) hr1.symm)
  have d1 := d0.st f1 t1 a1
  clear f1 t1 a1
  clear bd0 zGd0 zRd0 zQd0 nd0 sd0 ed0 kd0 wd0 d0
  have gd1 := z_dz.get w4 E4 kr nr hs d1
  have wd1 := gd1.1
  have kd1 := gd1.2.1
  have nd1 := gd1.2.2.1
  have ed1 := gd1.2.2.2.1
  have sd1 := gd1.2.2.2.2.1
  have zGd1 := gd1.2.2.2.2.2.1
  have zRd1 := gd1.2.2.2.2.2.2.1
  have zQd1 := gd1.2.2.2.2.2.2.2
  clear gd1
  have bd1 := wd1.b
  conv => whnf
  refine ⟨wd1.km, rfl, _, _, _, _, _, _, c_Mo_addx wd1.km, ⟨Nat.le_of_ble_eq_true rfl, Nat.le_of_ble_eq_true rfl, by (try dsimp only); omega, by (try dsimp only); omega⟩, fun _ _ z => False.elim z, ?_⟩
  rintro v9 H11 ⟨rfl, eH11⟩
  have d11 : z_dz ρ m H4 H11 (z_a (z_go (z_pl Z) (Z.1 2).toNatClampNeg (z_go (z_rl Z) (Z.1 1).toNatClampNeg (z_go (z_gl Z) (Z.1 0).toNatClampNeg (z_fl (z_lq Z) 11 (Int64.ofNat 3643))))) (z_fw Z)) := d1.add wd1.km eH11 (congrArg Int32.toInt64 hr1)
  clear eH11
  clear bd1 zGd1 zRd1 zQd1 nd1 sd1 ed1 kd1 wd1 d1
  have gd11 := z_dz.get w4 E4 kr nr hs d11
  have wd11 := gd11.1
  have kd11 := gd11.2.1
  have nd11 := gd11.2.2.1
  have ed11 := gd11.2.2.2.1
  have sd11 := gd11.2.2.2.2.1
  have zGd11 := gd11.2.2.2.2.2.1
  have zRd11 := gd11.2.2.2.2.2.2.1
  have zQd11 := gd11.2.2.2.2.2.2.2
  clear gd11
  have bd11 := wd11.b
  conv => whnf
  refine ⟨wd11.km, rfl, _, _, _, _, _, _, c_Mo_swapNowx wd11 kd11 (by omega) ed11 sd11, ⟨Nat.le_of_ble_eq_true rfl, Nat.le_of_ble_eq_true rfl, by (try dsimp only); omega, by (try dsimp only); omega⟩, fun _ _ z => False.elim z, ?_⟩
  rintro v9 h9 ⟨e9, r6, rfl, hr6⟩
  obtain rfl : H11 = h9 := e9.symm
  clear e9
  obtain ⟨er6, l1, l2⟩ := hr6
  have q32 : ((Int8.ofInt 32).toInt32).toInt = 32 := by decide
  have qm1 : (Int32.ofInt (-1)).toInt = -1 := by decide
  have o1 := (z_onat (n := (z_best Z).1) (by omega)).1
  have o2 := (z_onat (n := (z_best Z).2) (by omega)).1
  conv => whnf
  refine ⟨fun cc => ?_, fun cc => ?_⟩
  · have cc : ¬ r6.toInt = (Int32.ofInt (-1)).toInt := cc
    have ne : ¬ (z_best Z).1 = (z_best Z).2 := fun q => by rw [if_pos q] at er6; exact cc (by omega)
    rw [if_neg ne] at er6
    have vb1 : r6 / (Int8.ofInt 32).toInt32 = z_bans Z (Int32.ofInt 1) := Int32.toInt_inj.mp (by
      unfold z_bans
      rw [if_neg ne, if_neg (show ¬ (Int32.ofInt 1).toInt = 0 by decide), o1, z_div32 (x := r6) (by omega) q32]
      omega)
    have vb2 : r6 - r6 / (Int8.ofInt 32).toInt32 * (Int8.ofInt 32).toInt32 = z_bans Z (Int32.ofInt 0) := Int32.toInt_inj.mp (by
      unfold z_bans
      rw [if_neg ne, if_pos (show (Int32.ofInt 0).toInt = 0 by decide), o2, z_rem32 (x := r6) (by omega) q32]
      omega)
    clear er6 l1 l2 o1 o2 q32 qm1
    conv => whnf
    refine ⟨by decide, ?_⟩
    conv => whnf
    refine ⟨wd11.km, rfl, _, _, _, _, _, _, c_Mo_addx wd11.km, ⟨Nat.le_of_ble_eq_true rfl, Nat.le_of_ble_eq_true rfl, by (try dsimp only); omega, by (try dsimp only); omega⟩, fun _ _ z => False.elim z, ?_⟩
    rintro v9 H12 ⟨rfl, eH12⟩
    have d12 : z_dz ρ m H4 H12 (z_a (z_a (z_go (z_pl Z) (Z.1 2).toNatClampNeg (z_go (z_rl Z) (Z.1 1).toNatClampNeg (z_go (z_gl Z) (Z.1 0).toNatClampNeg (z_fl (z_lq Z) 11 (Int64.ofNat 3643))))) (z_fw Z)) (z_bans Z (Int32.ofInt 1))) := d11.add wd11.km eH12 (congrArg Int32.toInt64 vb1)
    clear eH12
    clear bd11 zGd11 zRd11 zQd11 nd11 sd11 ed11 kd11 wd11 d11
    have gd12 := z_dz.get w4 E4 kr nr hs d12
    have wd12 := gd12.1
    have kd12 := gd12.2.1
    have nd12 := gd12.2.2.1
    have ed12 := gd12.2.2.2.1
    have sd12 := gd12.2.2.2.2.1
    have zGd12 := gd12.2.2.2.2.2.1
    have zRd12 := gd12.2.2.2.2.2.2.1
    have zQd12 := gd12.2.2.2.2.2.2.2
    clear gd12
    have bd12 := wd12.b
    conv => whnf
    refine ⟨fun _ => ?_, fun c => absurd cc c⟩
    conv => whnf
    refine ⟨by decide, ?_⟩
    conv => whnf
    refine ⟨wd12.km, rfl, _, _, _, _, _, _, c_Mo_addx wd12.km, ⟨Nat.le_of_ble_eq_true rfl, Nat.le_of_ble_eq_true rfl, by (try dsimp only); omega, by (try dsimp only); omega⟩, fun _ _ z => False.elim z, ?_⟩
    rintro v9 H13 ⟨rfl, eH13⟩
    have d13 : z_dz ρ m H4 H13 (z_a (z_a (z_a (z_go (z_pl Z) (Z.1 2).toNatClampNeg (z_go (z_rl Z) (Z.1 1).toNatClampNeg (z_go (z_gl Z) (Z.1 0).toNatClampNeg (z_fl (z_lq Z) 11 (Int64.ofNat 3643))))) (z_fw Z)) (z_bans Z (Int32.ofInt 1))) (z_bans Z (Int32.ofInt 0))) := d12.add wd12.km eH13 (congrArg Int32.toInt64 vb2)
    clear eH13
    clear bd12 zGd12 zRd12 zQd12 nd12 sd12 ed12 kd12 wd12 d12
    have gd13 := z_dz.get w4 E4 kr nr hs d13
    have wd13 := gd13.1
    have kd13 := gd13.2.1
    have nd13 := gd13.2.2.1
    have ed13 := gd13.2.2.2.1
    have sd13 := gd13.2.2.2.2.1
    have zGd13 := gd13.2.2.2.2.2.1
    have zRd13 := gd13.2.2.2.2.2.2.1
    have zQd13 := gd13.2.2.2.2.2.2.2
    clear gd13
    have bd13 := wd13.b
    exact j_use hF (L301 H13 _ _ d13 (by (try dsimp only); omega) (by (try dsimp only); omega)) (And.intro rfl (And.intro rfl trivial))
  · have cc : ¬ ¬ r6.toInt = (Int32.ofInt (-1)).toInt := cc
    have eq : (z_best Z).1 = (z_best Z).2 := by
      by_cases q : (z_best Z).1 = (z_best Z).2
      · exact q
      · rw [if_neg q] at er6
        omega
    have vb : ∀ b, z_bans Z b = Int32.ofInt (-1) := fun b => by
      unfold z_bans
      rw [if_pos eq]
    clear er6 l1 l2 o1 o2 q32 qm1
    conv => whnf
    refine ⟨wd11.km, rfl, _, _, _, _, _, _, c_Mo_addx wd11.km, ⟨Nat.le_of_ble_eq_true rfl, Nat.le_of_ble_eq_true rfl, by (try dsimp only); omega, by (try dsimp only); omega⟩, fun _ _ z => False.elim z, ?_⟩
    rintro v9 H14 ⟨rfl, eH14⟩
    have d14 : z_dz ρ m H4 H14 (z_a (z_a (z_go (z_pl Z) (Z.1 2).toNatClampNeg (z_go (z_rl Z) (Z.1 1).toNatClampNeg (z_go (z_gl Z) (Z.1 0).toNatClampNeg (z_fl (z_lq Z) 11 (Int64.ofNat 3643))))) (z_fw Z)) (z_bans Z (Int32.ofInt 1))) := d11.add wd11.km eH14 (by rw [vb]; decide)
    clear eH14
    clear bd11 zGd11 zRd11 zQd11 nd11 sd11 ed11 kd11 wd11 d11
    have gd14 := z_dz.get w4 E4 kr nr hs d14
    have wd14 := gd14.1
    have kd14 := gd14.2.1
    have nd14 := gd14.2.2.1
    have ed14 := gd14.2.2.2.1
    have sd14 := gd14.2.2.2.2.1
    have zGd14 := gd14.2.2.2.2.2.1
    have zRd14 := gd14.2.2.2.2.2.2.1
    have zQd14 := gd14.2.2.2.2.2.2.2
    clear gd14
    have bd14 := wd14.b
    conv => whnf
    refine ⟨fun c => absurd c cc, fun _ => ?_⟩
    conv => whnf
    refine ⟨wd14.km, rfl, _, _, _, _, _, _, c_Mo_addx wd14.km, ⟨Nat.le_of_ble_eq_true rfl, Nat.le_of_ble_eq_true rfl, by (try dsimp only); omega, by (try dsimp only); omega⟩, fun _ _ z => False.elim z, ?_⟩
    rintro v9 H15 ⟨rfl, eH15⟩
    have d15 : z_dz ρ m H4 H15 (z_a (z_a (z_a (z_go (z_pl Z) (Z.1 2).toNatClampNeg (z_go (z_rl Z) (Z.1 1).toNatClampNeg (z_go (z_gl Z) (Z.1 0).toNatClampNeg (z_fl (z_lq Z) 11 (Int64.ofNat 3643))))) (z_fw Z)) (z_bans Z (Int32.ofInt 1))) (z_bans Z (Int32.ofInt 0))) := d14.add wd14.km eH15 (by rw [vb]; decide)
    clear eH15
    clear bd14 zGd14 zRd14 zQd14 nd14 sd14 ed14 kd14 wd14 d14
    have gd15 := z_dz.get w4 E4 kr nr hs d15
    have wd15 := gd15.1
    have kd15 := gd15.2.1
    have nd15 := gd15.2.2.1
    have ed15 := gd15.2.2.2.1
    have sd15 := gd15.2.2.2.2.1
    have zGd15 := gd15.2.2.2.2.2.1
    have zRd15 := gd15.2.2.2.2.2.2.1
    have zQd15 := gd15.2.2.2.2.2.2.2
    clear gd15
    have bd15 := wd15.b
    exact j_use hF (L301 H15 _ _ d15 (by (try dsimp only); omega) (by (try dsimp only); omega)) (And.intro rfl (And.intro rfl trivial))
