/-! the model's digest: word for word -/
set_option maxHeartbeats 4000000 in
set_option maxRecDepth 20000 in
theorem c_Mo_spansl {ρ : Nat → Nat} {h : j_H} {m P G R Q : Nat}  (w : j_MX ρ h m P G R Q) (V : z_V (z_d h m P G R Q)) : j_Ct 214 3 64 1 40 [j_r (some m)] h (fun v h' => (j_Mf ρ m h h' ∧ z_th m h h') ∧ ∃ r, v = some (j_r (some r)) ∧ j_kd h' r = some (.inr 0) ∧ (j_ln h' r : Int) = 2 * (j_it h' R 2).toInt ∧ ∀ k : Nat, (k : Int) < (j_it h R 2).toInt → j_it h' r (2 * k) = z_er (z_d h m P G R Q) k ∧ j_it h' r (2 * k + 1) = z_lr (z_d h m P G R Q) k) j_no := by
  refine j_intro km_214 (Nat.le_of_ble_eq_true rfl) ?_
  intro J hJ hF
  have wb := w.b
  refine hJ [14] 400 _ _ _ _ _ _ ?_
  conv => whnf
  refine ⟨_, rfl, w.km, fun o1 eo => ?_⟩
  obtain rfl : o1 = some R := eo.symm.trans w.eR
  conv => whnf
  refine ⟨w.lR.1, rfl, _, _, _, _, _, _, c_AL_size (h := h) w.lR j_Sc.rf j_sf_ok, ⟨Nat.le_of_ble_eq_true rfl, Nat.le_of_ble_eq_true rfl, by (try dsimp only); omega, by (try dsimp only); omega⟩, fun _ _ z => False.elim z, ?_⟩
  rintro v9 h9 ⟨e9, rfl⟩
  obtain rfl : h = h9 := e9.symm
  conv => whnf
  have anb2 : ((Int32.ofInt (2) * (j_it h R 2))).toInt = 2 * ((j_it h R 2)).toInt := j_dbl (by omega) (by omega)
  have clb2 := j_clamp (i := (Int32.ofInt (2) * (j_it h R 2))) (by omega)
  refine ⟨⟨fun z => absurd (j_l0.mp z) (by omega), by omega⟩, ⟨by (try dsimp only); omega, by (try dsimp only); omega⟩, fun b2 hbb2 => ?_⟩
  show j_go _ _ _ _ _ _ _ _ _ _ (j_nw h b2 (.inr 0) ((Int32.ofInt (2) * (j_it h R 2))).toNatClampNeg) _ _
  have st3 : j_Mf ρ m h (j_nw h b2 (.inr 0) ((Int32.ofInt (2) * (j_it h R 2))).toNatClampNeg) := j_Mf.nw w.km hbb2 (fun _ z => nomatch z)
  have kb2 : j_kd (j_nw h b2 (.inr 0) ((Int32.ofInt (2) * (j_it h R 2))).toNatClampNeg) b2 = some (.inr 0) := if_pos rfl
  have nb2 : j_ln (j_nw h b2 (.inr 0) ((Int32.ofInt (2) * (j_it h R 2))).toNatClampNeg) b2 = ((Int32.ofInt (2) * (j_it h R 2))).toNatClampNeg := if_pos rfl
  have rb2 := w.rz b2 hbb2
  have tH3 : z_th m h (j_nw h b2 (.inr 0) ((Int32.ofInt (2) * (j_it h R 2))).toNatClampNeg) := z_th.nw (fun z => by have := w.km; rw [z, hbb2] at this; cases this)
  generalize j_nw h b2 (.inr 0) ((Int32.ofInt (2) * (j_it h R 2))).toNatClampNeg = H3 at st3 kb2 nb2 tH3 ⊢
  have zG4 := congrArg Int32.toInt (st3.sz w.lG.1)
  have zR4 := congrArg Int32.toInt (st3.sz w.lR.1)
  have zQ4 := congrArg Int32.toInt (st3.sz w.lQ.1)
  have w4 := w.f st3
  have f4_0 := (j_Mf.rf : j_Mf ρ m h h).tr st3
  have L14_6 : ∀ (k : Nat) (v5 : Int32) (H8 : j_H) (cn sn : Nat), j_Mf ρ m H3 H8 → z_th m h H8 → (∀ k : Nat, (k : Int) < v5.toInt → j_it H8 b2 (2 * k) = z_er (z_d h m P G R Q) k ∧ j_it H8 b2 (2 * k + 1) = z_lr (z_d h m P G R Q) k) → v5.toInt ≤ (j_it h R 2).toInt → cn ≤ 1 → sn ≤ 40 → 0 ≤ v5.toInt → (2147483647 - v5.toInt) < (k : Int) → J 14 [some (j_r (some m)), some (j_r (some b2)), some (j_i v5), none] [] H8 cn sn := by
    intro k
    induction k with
    | zero => intro v5 H8 cn sn sbB7 tH8 iv hl hcn hsn hn hm; exact absurd hm (by have := j_ub v5; omega)
    | succ k ihB7 =>
      intro v5 H8 cn sn sbB7 tH8 iv hl hcn hsn hn hm
      have uv5 := j_ub v5; have lv5 := j_lb v5
      have zG9 := congrArg Int32.toInt (sbB7.sz w4.lG.1)
      have zR9 := congrArg Int32.toInt (sbB7.sz w4.lR.1)
      have zQ9 := congrArg Int32.toInt (sbB7.sz w4.lQ.1)
      have n9_b2 := sbB7.ln kb2
      have k9_b2 := sbB7.kd kb2
      have w9 := w4.f sbB7
      have f9_0 := f4_0.tr sbB7
      refine hJ [14] 400 _ _ _ _ _ _ ?_
      conv => whnf
      refine ⟨_, rfl, w9.km, fun o10 eo => ?_⟩
      obtain rfl : o10 = some R := eo.symm.trans w9.eR
      conv => whnf
      refine ⟨w9.lR.1, rfl, _, _, _, _, _, _, c_AL_size (h := H8) w9.lR j_Sc.rf j_sf_ok, ⟨Nat.le_of_ble_eq_true rfl, Nat.le_of_ble_eq_true rfl, by (try dsimp only); omega, by (try dsimp only); omega⟩, fun _ _ z => False.elim z, ?_⟩
      rintro v9 h9 ⟨e9, rfl⟩
      obtain rfl : H8 = h9 := e9.symm
      have u11 := j_ub v5
      conv => whnf
      refine ⟨fun c12 => ?_, fun c12 => ?_⟩
      · have c12 : ((j_it H8 R 2)).toInt ≤ (v5).toInt := c12
        conv => whnf
        exact ⟨trivial, ⟨by (try dsimp only); omega, by (try dsimp only); omega⟩, ⟨f9_0, tH8⟩, _, rfl, k9_b2, by omega, fun k hk => iv k (by omega)⟩
      · have c12 : ¬ ((j_it H8 R 2)).toInt ≤ (v5).toInt := c12
        conv => whnf
        refine ⟨_, rfl, w9.km, fun o13 eo => ?_⟩
        obtain rfl : o13 = some R := eo.symm.trans w9.eR
        conv => whnf
        refine ⟨w9.lR.1, rfl, _, _, _, _, _, _, c_AL_get (h := H8) w9.lR j_Sc.rf j_sf_ok (by omega) (by omega), ⟨Nat.le_of_ble_eq_true rfl, Nat.le_of_ble_eq_true rfl, by (try dsimp only); omega, by (try dsimp only); omega⟩, fun _ _ z => False.elim z, ?_⟩
        rintro v9 h9 ⟨e9, g14, rfl, kg14, xg14⟩
        obtain rfl : H8 = h9 := e9.symm
        have feg14 := w9.aR.get (by omega) (by omega) xg14
        have zg14 := z_ml_get xg14
        have lk : (v5.toNatClampNeg : Int) < (j_it H8 R 2).toInt := by rw [j_clamp (by omega)]; omega
        have E9 := z_mfd w f9_0
        have d1 : (z_d H8 m P G R Q).2.2.2.1 v5.toNatClampNeg 1 = j_it H8 g14 1 := by rw [← zg14]; rfl
        obtain ⟨r19, hr19⟩ : ∃ r, r = z_er (z_d h m P G R Q) v5.toNatClampNeg := ⟨_, rfl⟩
        obtain ⟨r25, hr25⟩ : ∃ r, r = z_lr (z_d h m P G R Q) v5.toNatClampNeg := ⟨_, rfl⟩
        conv => whnf
        refine ⟨Or.inr ⟨_, rfl, kg14⟩, ?_⟩
        conv => whnf
        refine ⟨_, rfl, w9.km, fun o15 eo => ?_⟩
        obtain rfl : o15 = some P := eo.symm.trans w9.eP
        conv => whnf
        refine ⟨_, rfl, kg14, fun x16 ex16 => ?_⟩
        have hx16 : 0 ≤ x16.toInt ∧ x16.toInt ≤ 1 := by rw [← ex16]; exact feg14
        have n17 := w9.nP
        conv => whnf
        refine ⟨_, _, rfl, w9.kP, rfl, j_vp (by omega) (by omega), fun x18 ex18 => ?_⟩
        have vx18 : x18 = (z_d H8 m P G R Q).1 (j_pf ((z_d H8 m P G R Q).2.2.2.1 v5.toNatClampNeg 1)) := by
          rw [d1, ex16, ← z_pmx (ρ := ρ) hx16]
          exact ex18.symm
        have bx18 := (V.eq E9).tp ((z_d H8 m P G R Q).2.2.2.1 v5.toNatClampNeg 1)
        rw [← vx18] at bx18
        conv => whnf
        refine ⟨w9.km, rfl, _, _, _, _, _, _, c_Mo_earlyx w9 kg14 (V.eq E9) lk zg14 bx18.1, ⟨Nat.le_of_ble_eq_true rfl, Nat.le_of_ble_eq_true rfl, by (try dsimp only); omega, by (try dsimp only); omega⟩, fun _ _ z => False.elim z, ?_⟩
        rintro v9 h9 ⟨e9, er⟩
        obtain rfl : v9 = some (j_i r19) := er.trans (congrArg (fun r => some (j_i r)) (by
          rw [hr19, ← z_er_c E9 lk, vx18]
          rfl))
        obtain rfl : H8 = h9 := e9.symm
        conv => whnf
        refine ⟨_, rfl, k9_b2, j_vp (by rw [j_dbl (by omega) (by omega)]; omega) (by rw [j_dbl (by omega) (by omega)]; omega), ?_⟩
        show j_go _ _ _ _ _ _ _ _ _ _ (j_ui H8 b2 ((Int32.ofInt (2) * v5)).toNatClampNeg r19) _ _
        have st20 : j_Mf ρ m H8 (j_ui H8 b2 ((Int32.ofInt (2) * v5)).toNatClampNeg r19) := j_Mf.ar w9.km k9_b2 (⟨by omega, fun z => absurd z (by omega)⟩)
        have tH20 : z_th m h (j_ui H8 b2 ((Int32.ofInt (2) * v5)).toNatClampNeg r19) := (z_th.ui w9.km k9_b2 (by decide)).trans tH8
        have i1 : ((Int32.ofInt (2) * v5)).toNatClampNeg = 2 * v5.toNatClampNeg := by
          have e := j_dbl (x := v5) (by omega) (by omega)
          have := j_clamp (i := Int32.ofInt (2) * v5) (by omega)
          have := j_clamp (i := v5) (by omega)
          omega
        have i2 : (((Int32.ofInt (2) * v5) + Int32.ofInt (1))).toNatClampNeg = 2 * v5.toNatClampNeg + 1 := by
          have e := j_dbl1 (x := v5) (by omega) (by omega)
          have := j_clamp (i := (Int32.ofInt (2) * v5) + Int32.ofInt (1)) (by omega)
          have := j_clamp (i := v5) (by omega)
          omega
        have c20 : ∀ j, j_it (j_ui H8 b2 ((Int32.ofInt (2) * v5)).toNatClampNeg r19) b2 j = if j = 2 * v5.toNatClampNeg then r19 else j_it H8 b2 j := fun j => by rw [z_uia, i1]
        generalize j_ui H8 b2 ((Int32.ofInt (2) * v5)).toNatClampNeg r19 = H20 at st20 tH20 c20 ⊢
        have zG20 := congrArg Int32.toInt (st20.sz w9.lG.1)
        have zR20 := congrArg Int32.toInt (st20.sz w9.lR.1)
        have zQ20 := congrArg Int32.toInt (st20.sz w9.lQ.1)
        have n20_b2 := st20.ln k9_b2
        have k20_b2 := st20.kd k9_b2
        have fe20_g14 := st20.rA kg14 feg14
        have k20_g14 := st20.kd kg14
        have w20 := w9.f st20
        have f20_0 := f9_0.tr st20
        have E20 := z_mfd w f20_0
        have zg20 : z_ml H20 R v5.toNatClampNeg = g14 := (z_ml_f st20 w9.lR lk).trans zg14
        have lk20 : (v5.toNatClampNeg : Int) < (j_it H20 R 2).toInt := by rw [j_clamp (by omega)]; omega
        have d20 : (z_d H20 m P G R Q).2.2.2.1 v5.toNatClampNeg 1 = j_it H20 g14 1 := by rw [← zg20]; rfl
        have f20_B7 := sbB7.tr st20
        conv => whnf
        refine ⟨_, rfl, w20.km, fun o21 eo => ?_⟩
        obtain rfl : o21 = some P := eo.symm.trans w20.eP
        conv => whnf
        refine ⟨_, rfl, k20_g14, fun x22 ex22 => ?_⟩
        have hx22 : 0 ≤ x22.toInt ∧ x22.toInt ≤ 1 := by rw [← ex22]; exact fe20_g14
        have n23 := w20.nP
        conv => whnf
        refine ⟨_, _, rfl, w20.kP, rfl, j_vp (by omega) (by omega), fun x24 ex24 => ?_⟩
        have vx24 : x24 = (z_d H20 m P G R Q).1 (j_pf ((z_d H20 m P G R Q).2.2.2.1 v5.toNatClampNeg 1)) := by
          rw [d20, ex22, ← z_pmx (ρ := ρ) hx22]
          exact ex24.symm
        have bx24 := (V.eq E20).tp ((z_d H20 m P G R Q).2.2.2.1 v5.toNatClampNeg 1)
        rw [← vx24] at bx24
        conv => whnf
        refine ⟨w20.km, rfl, _, _, _, _, _, _, c_Mo_latex w20 k20_g14 (V.eq E20) lk20 zg20 bx24.1, ⟨Nat.le_of_ble_eq_true rfl, Nat.le_of_ble_eq_true rfl, by (try dsimp only); omega, by (try dsimp only); omega⟩, fun _ _ z => False.elim z, ?_⟩
        rintro v9 h9 ⟨e9, er⟩
        obtain rfl : v9 = some (j_i r25) := er.trans (congrArg (fun r => some (j_i r)) (by
          rw [hr25, ← z_lr_c E20 lk20, vx24]
          rfl))
        obtain rfl : H20 = h9 := e9.symm
        conv => whnf
        refine ⟨_, rfl, k20_b2, j_vp (by rw [j_dbl1 (by omega) (by omega)]; omega) (by rw [j_dbl1 (by omega) (by omega)]; omega), ?_⟩
        show j_go _ _ _ _ _ _ _ _ _ _ (j_ui H20 b2 (((Int32.ofInt (2) * v5) + Int32.ofInt (1))).toNatClampNeg r25) _ _
        have st26 : j_Mf ρ m H20 (j_ui H20 b2 (((Int32.ofInt (2) * v5) + Int32.ofInt (1))).toNatClampNeg r25) := j_Mf.ar w20.km k20_b2 (⟨by omega, fun z => absurd z (by omega)⟩)
        have tH26 : z_th m h (j_ui H20 b2 (((Int32.ofInt (2) * v5) + Int32.ofInt (1))).toNatClampNeg r25) := (z_th.ui w20.km k20_b2 (by decide)).trans tH20
        have c26 : ∀ j, j_it (j_ui H20 b2 (((Int32.ofInt (2) * v5) + Int32.ofInt (1))).toNatClampNeg r25) b2 j = if j = 2 * v5.toNatClampNeg + 1 then r25 else j_it H20 b2 j := fun j => by rw [z_uia, i2]
        generalize j_ui H20 b2 (((Int32.ofInt (2) * v5) + Int32.ofInt (1))).toNatClampNeg r25 = H26 at st26 tH26 c26 ⊢
        have zG26 := congrArg Int32.toInt (st26.sz w20.lG.1)
        have zR26 := congrArg Int32.toInt (st26.sz w20.lR.1)
        have zQ26 := congrArg Int32.toInt (st26.sz w20.lQ.1)
        have n26_b2 := st26.ln k20_b2
        have k26_b2 := st26.kd k20_b2
        have fe26_g14 := st26.rA k20_g14 fe20_g14
        have k26_g14 := st26.kd k20_g14
        have w26 := w20.f st26
        have f26_0 := f20_0.tr st26
        have f26_B7 := f20_B7.tr st26
        have t27 : (v5 + Int32.ofInt 1).toInt = v5.toInt + 1 := j_inc1 (by omega)
        exact j_use hF (ihB7 (v5 + Int32.ofInt 1) H26 _ _ f26_B7 tH26 (fun k hk => by
          have cl := j_clamp (i := v5) (by omega)
          rw [c26, c26, c20, c20]
          by_cases z : k = v5.toNatClampNeg
          · rw [if_neg (by omega), if_pos (by omega), if_pos (by omega), hr19, hr25, z]
            exact ⟨rfl, rfl⟩
          · rw [if_neg (by omega), if_neg (by omega), if_neg (by omega), if_neg (by omega)]
            exact iv k (by omega)) (by omega) (by (try dsimp only); omega) (by (try dsimp only); omega) (by omega) (by omega)) (And.intro rfl (And.intro rfl (And.intro rfl trivial)))
  have q28 : (Int32.ofInt (0)).toInt = 0 := by decide
  exact j_use hF (L14_6 4294967296 (Int32.ofInt 0) H3 _ _ j_Mf.rf tH3 (fun k hk => absurd hk (by omega)) (by omega) (by (try dsimp only); omega) (by (try dsimp only); omega) (by omega) (by omega)) (And.intro rfl (And.intro rfl (And.intro rfl trivial)))
theorem c_Mo_addx {h : j_H} {m : Nat} {v : Int64} (km : j_kd h m = some (.inl 12)) : j_Ct 166 0 0 0 0 [j_r (some m), j_l v] h (fun u h' => u = none ∧ h' = j_up h m 7 (j_l (j_lg h m 7 * Int64.ofNat 31 + v))) j_no := by
  refine j_intro km_166 (Nat.le_of_ble_eq_true rfl) ?_
  intro J hJ hF
  refine hJ [] 400 _ _ _ _ _ _ ?_
  conv => whnf
  refine ⟨_, rfl, km, fun x1 ex1 => ?_⟩
  obtain rfl : x1 = j_lg h m 7 := ex1.symm
  conv => whnf
  refine ⟨_, rfl, km, ?_⟩
  conv => whnf
  exact ⟨rfl, ⟨Nat.le_of_ble_eq_true rfl, Nat.le_of_ble_eq_true rfl⟩, rfl, rfl⟩
/-- the sum is a; thrown and what was there before are as they were -/
def z_dz (ρ : Nat → Nat) (m : Nat) (h H : j_H) (a : Int64) : Prop := j_Mf ρ m h H ∧ j_it H m 0 = j_it h m 0 ∧ (∀ q j, j_kd h q = some (.inr 0) → j_it H q j = j_it h q j) ∧ j_lg H m 7 = a
section DR
variable {ρ : Nat → Nat} {m P G R Q s : Nat} {h H H' : j_H} {a v : Int64} {r : Int32} {Z : j_Z}
theorem z_dz.st (d : z_dz ρ m h H a) (f : j_Mf ρ m H H') (t : z_th m H H') (k : ∀ q j, j_kd H q = some (.inr 0) → j_it H' q j = j_it H q j) : z_dz ρ m h H' a :=
  ⟨d.1.tr f, t.1.trans d.2.1, fun q j kq => (k q j (d.1.kd kq)).trans (d.2.2.1 q j kq), t.2.trans d.2.2.2⟩
theorem z_dz.add (d : z_dz ρ m h H a) (km : j_kd H m = some (.inl 12)) (e : H' = j_up H m 7 (j_l (j_lg H m 7 * Int64.ofNat 31 + v))) (hv : v = r.toInt64) : z_dz ρ m h H' (z_a a r) := by
  subst e
  refine ⟨d.1.tr (j_Mf.fl km), d.2.1, fun q j kq => d.2.2.1 q j kq, ?_⟩
  show j_u (j_lg H) m 7 _ m 7 = _
  rw [j_u_at, d.2.2.2, hv]
  rfl
theorem z_dz.get (w : j_MX ρ h m P G R Q) (E : z_eq (z_d h m P G R Q) Z) (ks : j_kd h s = some (.inr 0)) (ns : (j_ln h s : Int) = 2 * (j_it h R 2).toInt) (hs : ∀ k : Nat, (k : Int) < (j_it h R 2).toInt → j_it h s (2 * k) = z_er Z k ∧ j_it h s (2 * k + 1) = z_lr Z k) (d : z_dz ρ m h H a) : j_MX ρ H m P G R Q ∧ j_kd H s = some (.inr 0) ∧ (j_ln H s : Int) = 2 * (j_it H R 2).toInt ∧ z_eq (z_d H m P G R Q) Z ∧ (∀ k : Nat, (k : Int) < (j_it H R 2).toInt → j_it H s (2 * k) = z_er Z k ∧ j_it H s (2 * k + 1) = z_lr Z k) ∧ (j_it H G 2).toInt = (j_it h G 2).toInt ∧ (j_it H R 2).toInt = (j_it h R 2).toInt ∧ (j_it H Q 2).toInt = (j_it h Q 2).toInt := by
  have f := d.1
  have zR := congrArg Int32.toInt (f.sz w.lR.1)
  refine ⟨w.f f, f.kd ks, ?_, (z_mfd w f).tr E, ?_, congrArg Int32.toInt (f.sz w.lG.1), zR, congrArg Int32.toInt (f.sz w.lQ.1)⟩
  · rw [f.ln ks]
    omega
  · intro k hk
    rw [d.2.2.1 s _ ks, d.2.2.1 s _ ks]
    exact hs k (by omega)
theorem z_go_0 {g : Nat → Int64 → Int64} {s : Int64} : z_go g 0 s = s := rfl
theorem z_go_s {g : Nat → Int64 → Int64} {n : Nat} {s : Int64} : z_go g (n + 1) s = g n (z_go g n s) := rfl
theorem z_fl_0 {f : Nat → Int32} {s : Int64} : z_fl f 0 s = s := rfl
theorem z_fl_s {f : Nat → Int32} {n : Nat} {s : Int64} : z_fl f (n + 1) s = z_a (z_fl f n s) (f n) := rfl
theorem z_dz.sd (e : z_eq (z_d H m P G R Q) Z) (hs : ∀ k : Nat, (k : Int) < (j_it H R 2).toInt → j_it H s (2 * k) = z_er Z k ∧ j_it H s (2 * k + 1) = z_lr Z k) : ∀ k : Nat, (k : Int) < (j_it H R 2).toInt → j_it H s (2 * k) = z_er (z_d H m P G R Q) k ∧ j_it H s (2 * k + 1) = z_lr (z_d H m P G R Q) k :=
  fun k hk => ⟨(hs k hk).1.trans (z_er_c e hk).symm, (hs k hk).2.trans (z_lr_c e hk).symm⟩
theorem z_rq5 {k : Nat} : z_rq Z k 5 = z_er Z k := by
  unfold z_rq
  rw [if_neg (by omega), if_pos rfl]
theorem z_rq6 {k : Nat} : z_rq Z k 6 = z_lr Z k := by
  unfold z_rq
  rw [if_neg (by omega), if_neg (by omega), if_pos rfl]
end DR
