/-! the model digest: 93.h.mdig -/
set_option maxHeartbeats 4000000 in
set_option maxRecDepth 20000 in
theorem d_t19 {J : j_J} {ρ : Nat → Nat} {H4 : j_H} {m P G R Q r3 : Nat} {Z : j_Z} {Pz : Option j_V → j_H → Prop} (hJ : j_Cl k_172 (j_ml 172, j_rt 172, 18, 807, 50, 400) Pz j_no J) (hF : j_Fg J) (w4 : j_MX ρ H4 m P G R Q) (E4 : z_eq (z_d H4 m P G R Q) Z) (kr : j_kd H4 r3 = some (.inr 0)) (nr : (j_ln H4 r3 : Int) = 2 * (j_it H4 R 2).toInt) (hs : ∀ k : Nat, (k : Int) < (j_it H4 R 2).toInt → j_it H4 r3 (2 * k) = z_er Z k ∧ j_it H4 r3 (2 * k + 1) = z_lr Z k) (V : z_V Z) (B : z_B Z) (L44 : ∀ (k : Nat) (v2 : Int32) (H : j_H) (cn sn : Nat), z_dz ρ m H4 H (z_go (z_gl Z) v2.toNatClampNeg (z_fl (z_lq Z) 11 (Int64.ofNat 3643))) → v2.toInt ≤ (j_it H4 G 2).toInt → cn ≤ 23 → sn ≤ 216 → 0 ≤ v2.toInt → (j_it H4 G 2).toInt - v2.toInt < (k : Int) → J 44 [some (j_r (some m)), some (j_r (some r3)), some (j_i v2), none] [] H cn sn) : ∀ (k : Nat) (v2 : Int32) (H : j_H) (cn sn : Nat), z_dz ρ m H4 H (z_fl (z_lq Z) v2.toNatClampNeg (Int64.ofNat 3643)) → v2.toInt ≤ 11 → cn ≤ 1 + 2 * v2.toInt.toNat → sn ≤ 40 + 16 * v2.toInt.toNat → 0 ≤ v2.toInt → 11 - v2.toInt < (k : Int) → J 19 [some (j_r (some m)), some (j_r (some r3)), some (j_i v2), none] [] H cn sn := by
  have b4 := w4.b
  intro k
  induction k with
  | zero => intro v2 H cn sn d0 hl hcn hsn hn hm; omega
  | succ k ih =>
    intro v2 H cn sn d0 hl hcn hsn hn hm
    have cl2 := j_clamp hn
    have gd0 := z_dz.get w4 E4 kr nr hs d0
    have wd0 := gd0.1
    have kd0 := gd0.2.1
    have nd0 := gd0.2.2.1
    have ed0 := gd0.2.2.2.1
    have sd0 := gd0.2.2.2.2.1
    have zGd0 := gd0.2.2.2.2.2.1
    have zRd0 := gd0.2.2.2.2.2.2.1
    have zQd0 := gd0.2.2.2.2.2.2.2
    clear gd0
    have bd0 := wd0.b
    refine hJ [19, 44, 57, 134, 136, 149, 202, 204, 217, 245, 301] 400 _ _ _ _ _ _ ?_
    have q9 : ((Int8.ofInt (11)).toInt32).toInt = 11 := by decide
    conv => whnf
    refine ⟨fun c14 => ?_, fun c14 => ?_⟩
    · have c14 : ((Int8.ofInt (11)).toInt32).toInt ≤ v2.toInt := c14
      rw [show v2.toNatClampNeg = 11 by omega] at d0
      exact j_use hF (L44 100 (Int32.ofInt 0) H _ _ (by rw [show (Int32.ofInt 0).toNatClampNeg = 0 by decide, z_go_0]; exact d0) (by rw [show (Int32.ofInt 0).toInt = 0 by decide]; omega) (by (try dsimp only); omega) (by (try dsimp only); omega) (by decide) (by rw [show (Int32.ofInt 0).toInt = 0 by decide]; omega)) (And.intro rfl (And.intro rfl (And.intro rfl trivial)))
    · have c14 : ¬ ((Int8.ofInt (11)).toInt32).toInt ≤ v2.toInt := c14
      conv => whnf
      refine ⟨wd0.km, rfl, _, _, _, _, _, _, c_Mo_labNowx wd0 kd0 (by omega) ⟨by omega, by omega⟩ (z_dz.sd ed0 sd0), ⟨Nat.le_of_ble_eq_true rfl, Nat.le_of_ble_eq_true rfl, by (try dsimp only); omega, by (try dsimp only); omega⟩, fun _ _ z => False.elim z, ?_⟩
      rintro o9 H1 ⟨⟨f1, t1, a1⟩, er9⟩
      obtain ⟨r1, hr1⟩ : ∃ r, r = z_lq Z v2.toNatClampNeg := ⟨_, rfl⟩
      obtain rfl : o9 = some (j_i r1) := er9.trans (congrArg (fun r => some (j_i r)) (by rw [hr1]; exact z_lq_c ed0 wd0.b.1.1 wd0.b.2.1.1 wd0.b.2.2.1 (z_cnt_st ed0 wd0.Pp wd0.b.2.2.1)))
      have d1 := d0.st f1 t1 a1
      clear f1 t1 a1
      clear bd0 zGd0 zRd0 zQd0 nd0 sd0 ed0 kd0 wd0 d0
      have gd1 := z_dz.get w4 E4 kr nr hs d1
      have wd1 := gd1.1
      have kd1 := gd1.2.1
      have nd1 := gd1.2.2.1
      have ed1 := gd1.2.2.2.1
      have sd1 := gd1.2.2.2.2.1
      have zGd1 := gd1.2.2.2.2.2.1
      have zRd1 := gd1.2.2.2.2.2.2.1
      have zQd1 := gd1.2.2.2.2.2.2.2
      clear gd1
      have bd1 := wd1.b
      conv => whnf
      refine ⟨wd1.km, rfl, _, _, _, _, _, _, c_Mo_addx wd1.km, ⟨Nat.le_of_ble_eq_true rfl, Nat.le_of_ble_eq_true rfl, by (try dsimp only); omega, by (try dsimp only); omega⟩, fun _ _ z => False.elim z, ?_⟩
      rintro v9 H31 ⟨rfl, eH31⟩
      have d31 : z_dz ρ m H4 H31 (z_a (z_fl (z_lq Z) v2.toNatClampNeg (Int64.ofNat 3643)) (z_lq Z v2.toNatClampNeg)) := d1.add wd1.km eH31 (congrArg Int32.toInt64 hr1)
      clear eH31
      clear bd1 zGd1 zRd1 zQd1 nd1 sd1 ed1 kd1 wd1 d1
      have gd31 := z_dz.get w4 E4 kr nr hs d31
      have wd31 := gd31.1
      have kd31 := gd31.2.1
      have nd31 := gd31.2.2.1
      have ed31 := gd31.2.2.2.1
      have sd31 := gd31.2.2.2.2.1
      have zGd31 := gd31.2.2.2.2.2.1
      have zRd31 := gd31.2.2.2.2.2.2.1
      have zQd31 := gd31.2.2.2.2.2.2.2
      clear gd31
      have bd31 := wd31.b
      have t2 : (v2 + Int32.ofInt 1).toInt = v2.toInt + 1 := j_inc1 (by omega)
      have ct2 := j_clamp (i := v2 + Int32.ofInt 1) (by omega)
      exact j_use hF (ih (v2 + Int32.ofInt 1) H31 _ _ (by rw [show (v2 + Int32.ofInt 1).toNatClampNeg = v2.toNatClampNeg + 1 by omega, z_fl_s]; exact d31) (by omega) (by (try dsimp only); omega) (by (try dsimp only); omega) (by omega) (by omega)) (And.intro rfl (And.intro rfl (And.intro rfl trivial)))
set_option maxHeartbeats 4000000 in
set_option maxRecDepth 20000 in
theorem c_Mo_digestz {ρ : Nat → Nat} {h : j_H} {m P G R Q : Nat} (w : j_MX ρ h m P G R Q) (V0 : z_V (z_d h m P G R Q)) (B0 : z_B (z_d h m P G R Q)) : j_Ct 172 18 807 50 400 [j_r (some m)] h (fun v h' => (j_Mf ρ m h h' ∧ j_it h' m 0 = Int32.ofInt 0) ∧ v = some (j_l (z_dig (z_d h m P G R Q)))) j_no := by
  refine j_intro km_172 (Nat.le_of_ble_eq_true rfl) ?_
  intro J hJ hF
  refine hJ [19, 44, 57, 134, 136, 149, 202, 204, 217, 245, 301] 400 _ _ _ _ _ _ ?_
  conv => whnf
  refine ⟨_, rfl, w.km, ?_⟩
  show j_go _ _ _ _ _ _ _ _ _ _ (j_up h m 0 (j_i (Int32.ofInt (0)))) _ _
  have st1 : j_Mf ρ m h (j_up h m 0 (j_i (Int32.ofInt (0)))) := j_Mf.fi w.km (by decide)
  have tH1 : j_it (j_up h m 0 (j_i (Int32.ofInt (0)))) m 0 = Int32.ofInt 0 := j_upi
  generalize j_up h m 0 (j_i (Int32.ofInt (0))) = H1 at st1 tH1 ⊢
  have w1 := w.f st1
  conv => whnf
  refine ⟨_, rfl, w1.km, ?_⟩
  show j_go _ _ _ _ _ _ _ _ _ _ (j_up H1 m 7 (j_l (Int64.ofNat 3643))) _ _
  have st2 : j_Mf ρ m H1 (j_up H1 m 7 (j_l (Int64.ofNat 3643))) := j_Mf.fl w1.km
  have tH2 : j_it (j_up H1 m 7 (j_l (Int64.ofNat 3643))) m 0 = Int32.ofInt 0 := tH1
  have lH2 : j_lg (j_up H1 m 7 (j_l (Int64.ofNat 3643))) m 7 = Int64.ofNat 3643 := by
    show j_u (j_lg H1) m 7 _ m 7 = _
    exact j_u_at
  generalize j_up H1 m 7 (j_l (Int64.ofNat 3643)) = H2 at st2 tH2 lH2 ⊢
  have w2 := w1.f st2
  have f2 := st1.tr st2
  have E2 := z_mfd w f2
  have b2 := w2.b
  conv => whnf
  refine ⟨w2.km, rfl, _, _, _, _, _, _, c_Mo_spansl w2 (V0.eq E2), ⟨Nat.le_of_ble_eq_true rfl, Nat.le_of_ble_eq_true rfl, by (try dsimp only); omega, by (try dsimp only); omega⟩, fun _ _ z => False.elim z, ?_⟩
  rintro v9 H4 ⟨⟨st5, tH5⟩, r3, rfl, kr, nr, vr⟩
  have zR5 := congrArg Int32.toInt (st5.sz w2.lR.1)
  have w4 := w2.f st5
  have F4 := f2.tr st5
  have T4 := tH5.1.trans tH2
  have lH4 := tH5.2.trans lH2
  have E4 := z_mfd w F4
  have b4 := w4.b
  obtain ⟨Z, hZ⟩ : ∃ Z, Z = z_d h m P G R Q := ⟨_, rfl⟩
  rw [← hZ] at E4 E2 V0 B0
  have hs : ∀ k : Nat, (k : Int) < (j_it H4 R 2).toInt → j_it H4 r3 (2 * k) = z_er Z k ∧ j_it H4 r3 (2 * k + 1) = z_lr Z k := fun k hk => by
    have lk : z_lt (z_d H2 m P G R Q) 1 k := by show (k : Int) < (j_it H2 R 2).toInt; omega
    rw [← z_er_c E2 lk, ← z_lr_c E2 lk]
    exact vr k lk
  clear vr
  have V := V0
  have B := B0
  clear V0 B0 E2 tH1 tH2 lH2 tH5 st1 st2 st5 f2 w1 w2 w b2 zR5
  have hP : ∀ H, z_dz ρ m H4 H (z_dig Z) → (j_Mf ρ m h H ∧ j_it H m 0 = Int32.ofInt 0) ∧ some (j_l (z_dig Z)) = some (j_l (z_dig (z_d h m P G R Q))) := fun H d => ⟨⟨F4.tr d.1, d.2.1.trans T4⟩, by rw [← hZ]⟩
  have L301 := d_t301 hJ hF w4 E4 kr nr hs V B hP
  have L245 := d_t245 hJ hF w4 E4 kr nr hs V B L301
  have L204 := d_t204 hJ hF w4 E4 kr nr hs V B L245
  have L136 := d_t136 hJ hF w4 E4 kr nr hs V B L204
  have L44 := d_t44 hJ hF w4 E4 kr nr hs V B L136
  have L19 := d_t19 hJ hF w4 E4 kr nr hs V B L44
  exact j_use hF (L19 100 (Int32.ofInt 0) H4 _ _ ⟨j_Mf.rf, rfl, fun _ _ _ => rfl, by rw [lH4, show (Int32.ofInt 0).toNatClampNeg = 0 by decide, z_fl_0]⟩ (by decide) (by rw [show (Int32.ofInt 0).toInt = 0 by decide]; (try dsimp only); omega) (by rw [show (Int32.ofInt 0).toInt = 0 by decide]; (try dsimp only); omega) (by decide) (by decide)) (And.intro rfl (And.intro rfl (And.intro rfl trivial)))
