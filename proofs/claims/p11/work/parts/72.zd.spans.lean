/-! the model's spans: word for word -/
theorem z_uia {h : j_H} {b k j : Nat} {x : Int32} : j_it (j_ui h b k x) b j = if j = k then x else j_it h b j := by
  show j_u (j_it h) b k x b j = _
  rw [j_uq]
  by_cases z : j = k
  · rw [if_pos ⟨rfl, z⟩, if_pos z]
  · rw [if_neg (fun y => z y.2), if_neg z]
theorem z_pw1 {z : j_Z} {g k : Nat} {c : Int32} : z_pw z g c (Int32.ofInt (-1)) k = z_says z g c k := by
  unfold z_pw
  rw [decide_eq_true (show ¬ (k : Int) = (Int32.ofInt (-1)).toInt by rw [show (Int32.ofInt (-1)).toInt = -1 by decide]; omega), Bool.true_and]
set_option maxHeartbeats 4000000 in
set_option maxRecDepth 20000 in
theorem c_Mo_spansx {ρ : Nat → Nat} {h : j_H} {m P G R Q : Nat}  (w : j_MX ρ h m P G R Q) (V : z_V (z_d h m P G R Q)) : j_Ct 214 3 64 1 40 [j_r (some m)] h (fun v h' => (j_Mf ρ m h h' ∧ j_it h' m 0 = j_it h m 0) ∧ ∃ r, v = some (j_r (some r)) ∧ j_kd h' r = some (.inr 0) ∧ (j_ln h' r : Int) = 2 * (j_it h' R 2).toInt ∧ ∀ k : Nat, (k : Int) < (j_it h R 2).toInt → j_it h' r (2 * k) = z_er (z_d h m P G R Q) k ∧ j_it h' r (2 * k + 1) = z_lr (z_d h m P G R Q) k) j_no := by
  refine j_intro km_214 (Nat.le_of_ble_eq_true rfl) ?_
  intro J hJ hF
  have wb := w.b
  refine hJ [14] 400 _ _ _ _ _ _ ?_
  conv => whnf
  refine ⟨_, rfl, w.km, fun o1 eo => ?_⟩
  obtain rfl : o1 = some R := eo.symm.trans w.eR
  conv => whnf
  refine ⟨w.lR.1, rfl, _, _, _, _, _, _, c_AL_size (h := h) w.lR j_Sc.rf j_sf_ok, ⟨Nat.le_of_ble_eq_true rfl, Nat.le_of_ble_eq_true rfl, by (try dsimp only); omega, by (try dsimp only); omega⟩, fun _ _ z => False.elim z, ?_⟩
  rintro v9 h9 ⟨e9, rfl⟩
  obtain rfl : h = h9 := e9.symm
  conv => whnf
  have anb2 : ((Int32.ofInt (2) * (j_it h R 2))).toInt = 2 * ((j_it h R 2)).toInt := j_dbl (by omega) (by omega)
  have clb2 := j_clamp (i := (Int32.ofInt (2) * (j_it h R 2))) (by omega)
  refine ⟨⟨fun z => absurd (j_l0.mp z) (by omega), by omega⟩, ⟨by (try dsimp only); omega, by (try dsimp only); omega⟩, fun b2 hbb2 => ?_⟩
  show j_go _ _ _ _ _ _ _ _ _ _ (j_nw h b2 (.inr 0) ((Int32.ofInt (2) * (j_it h R 2))).toNatClampNeg) _ _
  have st3 : j_Mf ρ m h (j_nw h b2 (.inr 0) ((Int32.ofInt (2) * (j_it h R 2))).toNatClampNeg) := j_Mf.nw w.km hbb2 (fun _ z => nomatch z)
  have kb2 : j_kd (j_nw h b2 (.inr 0) ((Int32.ofInt (2) * (j_it h R 2))).toNatClampNeg) b2 = some (.inr 0) := if_pos rfl
  have nb2 : j_ln (j_nw h b2 (.inr 0) ((Int32.ofInt (2) * (j_it h R 2))).toNatClampNeg) b2 = ((Int32.ofInt (2) * (j_it h R 2))).toNatClampNeg := if_pos rfl
  have rb2 := w.rz b2 hbb2
  have tH3 : j_it (j_nw h b2 (.inr 0) ((Int32.ofInt (2) * (j_it h R 2))).toNatClampNeg) m 0 = j_it h m 0 := if_neg (fun z => by have := w.km; rw [z, hbb2] at this; cases this)
  generalize j_nw h b2 (.inr 0) ((Int32.ofInt (2) * (j_it h R 2))).toNatClampNeg = H3 at st3 kb2 nb2 tH3 ⊢
  have zG4 := congrArg Int32.toInt (st3.sz w.lG.1)
  have zR4 := congrArg Int32.toInt (st3.sz w.lR.1)
  have zQ4 := congrArg Int32.toInt (st3.sz w.lQ.1)
  have w4 := w.f st3
  have f4_0 := (j_Mf.rf : j_Mf ρ m h h).tr st3
  have L14_6 : ∀ (k : Nat) (v5 : Int32) (H8 : j_H) (cn sn : Nat), j_Mf ρ m H3 H8 → j_it H8 m 0 = j_it h m 0 → (∀ k : Nat, (k : Int) < v5.toInt → j_it H8 b2 (2 * k) = z_er (z_d h m P G R Q) k ∧ j_it H8 b2 (2 * k + 1) = z_lr (z_d h m P G R Q) k) → v5.toInt ≤ (j_it h R 2).toInt → cn ≤ 1 → sn ≤ 40 → 0 ≤ v5.toInt → (2147483647 - v5.toInt) < (k : Int) → J 14 [some (j_r (some m)), some (j_r (some b2)), some (j_i v5), none] [] H8 cn sn := by
    intro k
    induction k with
    | zero => intro v5 H8 cn sn sbB7 tH8 iv hl hcn hsn hn hm; exact absurd hm (by have := j_ub v5; omega)
    | succ k ihB7 =>
      intro v5 H8 cn sn sbB7 tH8 iv hl hcn hsn hn hm
      have uv5 := j_ub v5; have lv5 := j_lb v5
      have zG9 := congrArg Int32.toInt (sbB7.sz w4.lG.1)
      have zR9 := congrArg Int32.toInt (sbB7.sz w4.lR.1)
      have zQ9 := congrArg Int32.toInt (sbB7.sz w4.lQ.1)
      have n9_b2 := sbB7.ln kb2
      have k9_b2 := sbB7.kd kb2
      have w9 := w4.f sbB7
      have f9_0 := f4_0.tr sbB7
      refine hJ [14] 400 _ _ _ _ _ _ ?_
      conv => whnf
      refine ⟨_, rfl, w9.km, fun o10 eo => ?_⟩
      obtain rfl : o10 = some R := eo.symm.trans w9.eR
      conv => whnf
      refine ⟨w9.lR.1, rfl, _, _, _, _, _, _, c_AL_size (h := H8) w9.lR j_Sc.rf j_sf_ok, ⟨Nat.le_of_ble_eq_true rfl, Nat.le_of_ble_eq_true rfl, by (try dsimp only); omega, by (try dsimp only); omega⟩, fun _ _ z => False.elim z, ?_⟩
      rintro v9 h9 ⟨e9, rfl⟩
      obtain rfl : H8 = h9 := e9.symm
      have u11 := j_ub v5
      conv => whnf
      refine ⟨fun c12 => ?_, fun c12 => ?_⟩
      · have c12 : ((j_it H8 R 2)).toInt ≤ (v5).toInt := c12
        conv => whnf
        exact ⟨trivial, ⟨by (try dsimp only); omega, by (try dsimp only); omega⟩, ⟨f9_0, tH8⟩, _, rfl, k9_b2, by omega, fun k hk => iv k (by omega)⟩
      · have c12 : ¬ ((j_it H8 R 2)).toInt ≤ (v5).toInt := c12
        conv => whnf
        refine ⟨_, rfl, w9.km, fun o13 eo => ?_⟩
        obtain rfl : o13 = some R := eo.symm.trans w9.eR
        conv => whnf
        refine ⟨w9.lR.1, rfl, _, _, _, _, _, _, c_AL_get (h := H8) w9.lR j_Sc.rf j_sf_ok (by omega) (by omega), ⟨Nat.le_of_ble_eq_true rfl, Nat.le_of_ble_eq_true rfl, by (try dsimp only); omega, by (try dsimp only); omega⟩, fun _ _ z => False.elim z, ?_⟩
        rintro v9 h9 ⟨e9, g14, rfl, kg14, xg14⟩
        obtain rfl : H8 = h9 := e9.symm
        have feg14 := w9.aR.get (by omega) (by omega) xg14
        have zg14 := z_ml_get xg14
        have lk : (v5.toNatClampNeg : Int) < (j_it H8 R 2).toInt := by rw [j_clamp (by omega)]; omega
        have E9 := z_mfd w f9_0
        have d1 : (z_d H8 m P G R Q).2.2.2.1 v5.toNatClampNeg 1 = j_it H8 g14 1 := by rw [← zg14]; rfl
        obtain ⟨r19, hr19⟩ : ∃ r, r = z_er (z_d h m P G R Q) v5.toNatClampNeg := ⟨_, rfl⟩
        obtain ⟨r25, hr25⟩ : ∃ r, r = z_lr (z_d h m P G R Q) v5.toNatClampNeg := ⟨_, rfl⟩
        conv => whnf
        refine ⟨Or.inr ⟨_, rfl, kg14⟩, ?_⟩
        conv => whnf
        refine ⟨_, rfl, w9.km, fun o15 eo => ?_⟩
        obtain rfl : o15 = some P := eo.symm.trans w9.eP
        conv => whnf
        refine ⟨_, rfl, kg14, fun x16 ex16 => ?_⟩
        have hx16 : 0 ≤ x16.toInt ∧ x16.toInt ≤ 1 := by rw [← ex16]; exact feg14
        have n17 := w9.nP
        conv => whnf
        refine ⟨_, _, rfl, w9.kP, rfl, j_vp (by omega) (by omega), fun x18 ex18 => ?_⟩
        have vx18 : x18 = (z_d H8 m P G R Q).1 (j_pf ((z_d H8 m P G R Q).2.2.2.1 v5.toNatClampNeg 1)) := by
          rw [d1, ex16, ← z_pmx (ρ := ρ) hx16]
          exact ex18.symm
        have bx18 := (V.eq E9).tp ((z_d H8 m P G R Q).2.2.2.1 v5.toNatClampNeg 1)
        rw [← vx18] at bx18
        conv => whnf
        refine ⟨w9.km, rfl, _, _, _, _, _, _, c_Mo_earlyx w9 kg14 (V.eq E9) lk zg14 bx18.1, ⟨Nat.le_of_ble_eq_true rfl, Nat.le_of_ble_eq_true rfl, by (try dsimp only); omega, by (try dsimp only); omega⟩, fun _ _ z => False.elim z, ?_⟩
        rintro v9 h9 ⟨e9, er⟩
        obtain rfl : v9 = some (j_i r19) := er.trans (congrArg (fun r => some (j_i r)) (by
          rw [hr19, ← z_er_c E9 lk, vx18]
          rfl))
        obtain rfl : H8 = h9 := e9.symm
        conv => whnf
        refine ⟨_, rfl, k9_b2, j_vp (by rw [j_dbl (by omega) (by omega)]; omega) (by rw [j_dbl (by omega) (by omega)]; omega), ?_⟩
        show j_go _ _ _ _ _ _ _ _ _ _ (j_ui H8 b2 ((Int32.ofInt (2) * v5)).toNatClampNeg r19) _ _
        have st20 : j_Mf ρ m H8 (j_ui H8 b2 ((Int32.ofInt (2) * v5)).toNatClampNeg r19) := j_Mf.ar w9.km k9_b2 (⟨by omega, fun z => absurd z (by omega)⟩)
        have tH20 : j_it (j_ui H8 b2 ((Int32.ofInt (2) * v5)).toNatClampNeg r19) m 0 = j_it h m 0 := (j_t0i w9.km k9_b2 (by decide)).trans tH8
        have i1 : ((Int32.ofInt (2) * v5)).toNatClampNeg = 2 * v5.toNatClampNeg := by
          have e := j_dbl (x := v5) (by omega) (by omega)
          have := j_clamp (i := Int32.ofInt (2) * v5) (by omega)
          have := j_clamp (i := v5) (by omega)
          omega
        have i2 : (((Int32.ofInt (2) * v5) + Int32.ofInt (1))).toNatClampNeg = 2 * v5.toNatClampNeg + 1 := by
          have e := j_dbl1 (x := v5) (by omega) (by omega)
          have := j_clamp (i := (Int32.ofInt (2) * v5) + Int32.ofInt (1)) (by omega)
          have := j_clamp (i := v5) (by omega)
          omega
        have c20 : ∀ j, j_it (j_ui H8 b2 ((Int32.ofInt (2) * v5)).toNatClampNeg r19) b2 j = if j = 2 * v5.toNatClampNeg then r19 else j_it H8 b2 j := fun j => by rw [z_uia, i1]
        generalize j_ui H8 b2 ((Int32.ofInt (2) * v5)).toNatClampNeg r19 = H20 at st20 tH20 c20 ⊢
        have zG20 := congrArg Int32.toInt (st20.sz w9.lG.1)
        have zR20 := congrArg Int32.toInt (st20.sz w9.lR.1)
        have zQ20 := congrArg Int32.toInt (st20.sz w9.lQ.1)
        have n20_b2 := st20.ln k9_b2
        have k20_b2 := st20.kd k9_b2
        have fe20_g14 := st20.rA kg14 feg14
        have k20_g14 := st20.kd kg14
        have w20 := w9.f st20
        have f20_0 := f9_0.tr st20
        have E20 := z_mfd w f20_0
        have zg20 : z_ml H20 R v5.toNatClampNeg = g14 := (z_ml_f st20 w9.lR lk).trans zg14
        have lk20 : (v5.toNatClampNeg : Int) < (j_it H20 R 2).toInt := by rw [j_clamp (by omega)]; omega
        have d20 : (z_d H20 m P G R Q).2.2.2.1 v5.toNatClampNeg 1 = j_it H20 g14 1 := by rw [← zg20]; rfl
        have f20_B7 := sbB7.tr st20
        conv => whnf
        refine ⟨_, rfl, w20.km, fun o21 eo => ?_⟩
        obtain rfl : o21 = some P := eo.symm.trans w20.eP
        conv => whnf
        refine ⟨_, rfl, k20_g14, fun x22 ex22 => ?_⟩
        have hx22 : 0 ≤ x22.toInt ∧ x22.toInt ≤ 1 := by rw [← ex22]; exact fe20_g14
        have n23 := w20.nP
        conv => whnf
        refine ⟨_, _, rfl, w20.kP, rfl, j_vp (by omega) (by omega), fun x24 ex24 => ?_⟩
        have vx24 : x24 = (z_d H20 m P G R Q).1 (j_pf ((z_d H20 m P G R Q).2.2.2.1 v5.toNatClampNeg 1)) := by
          rw [d20, ex22, ← z_pmx (ρ := ρ) hx22]
          exact ex24.symm
        have bx24 := (V.eq E20).tp ((z_d H20 m P G R Q).2.2.2.1 v5.toNatClampNeg 1)
        rw [← vx24] at bx24
        conv => whnf
        refine ⟨w20.km, rfl, _, _, _, _, _, _, c_Mo_latex w20 k20_g14 (V.eq E20) lk20 zg20 bx24.1, ⟨Nat.le_of_ble_eq_true rfl, Nat.le_of_ble_eq_true rfl, by (try dsimp only); omega, by (try dsimp only); omega⟩, fun _ _ z => False.elim z, ?_⟩
        rintro v9 h9 ⟨e9, er⟩
        obtain rfl : v9 = some (j_i r25) := er.trans (congrArg (fun r => some (j_i r)) (by
          rw [hr25, ← z_lr_c E20 lk20, vx24]
          rfl))
        obtain rfl : H20 = h9 := e9.symm
        conv => whnf
        refine ⟨_, rfl, k20_b2, j_vp (by rw [j_dbl1 (by omega) (by omega)]; omega) (by rw [j_dbl1 (by omega) (by omega)]; omega), ?_⟩
        show j_go _ _ _ _ _ _ _ _ _ _ (j_ui H20 b2 (((Int32.ofInt (2) * v5) + Int32.ofInt (1))).toNatClampNeg r25) _ _
        have st26 : j_Mf ρ m H20 (j_ui H20 b2 (((Int32.ofInt (2) * v5) + Int32.ofInt (1))).toNatClampNeg r25) := j_Mf.ar w20.km k20_b2 (⟨by omega, fun z => absurd z (by omega)⟩)
        have tH26 : j_it (j_ui H20 b2 (((Int32.ofInt (2) * v5) + Int32.ofInt (1))).toNatClampNeg r25) m 0 = j_it h m 0 := (j_t0i w20.km k20_b2 (by decide)).trans tH20
        have c26 : ∀ j, j_it (j_ui H20 b2 (((Int32.ofInt (2) * v5) + Int32.ofInt (1))).toNatClampNeg r25) b2 j = if j = 2 * v5.toNatClampNeg + 1 then r25 else j_it H20 b2 j := fun j => by rw [z_uia, i2]
        generalize j_ui H20 b2 (((Int32.ofInt (2) * v5) + Int32.ofInt (1))).toNatClampNeg r25 = H26 at st26 tH26 c26 ⊢
        have zG26 := congrArg Int32.toInt (st26.sz w20.lG.1)
        have zR26 := congrArg Int32.toInt (st26.sz w20.lR.1)
        have zQ26 := congrArg Int32.toInt (st26.sz w20.lQ.1)
        have n26_b2 := st26.ln k20_b2
        have k26_b2 := st26.kd k20_b2
        have fe26_g14 := st26.rA k20_g14 fe20_g14
        have k26_g14 := st26.kd k20_g14
        have w26 := w20.f st26
        have f26_0 := f20_0.tr st26
        have f26_B7 := f20_B7.tr st26
        have t27 : (v5 + Int32.ofInt 1).toInt = v5.toInt + 1 := j_inc1 (by omega)
        exact j_use hF (ihB7 (v5 + Int32.ofInt 1) H26 _ _ f26_B7 tH26 (fun k hk => by
          have cl := j_clamp (i := v5) (by omega)
          rw [c26, c26, c20, c20]
          by_cases z : k = v5.toNatClampNeg
          · rw [if_neg (by omega), if_pos (by omega), if_pos (by omega), hr19, hr25, z]
            exact ⟨rfl, rfl⟩
          · rw [if_neg (by omega), if_neg (by omega), if_neg (by omega), if_neg (by omega)]
            exact iv k (by omega)) (by omega) (by (try dsimp only); omega) (by (try dsimp only); omega) (by omega) (by omega)) (And.intro rfl (And.intro rfl (And.intro rfl trivial)))
  have q28 : (Int32.ofInt (0)).toInt = 0 := by decide
  exact j_use hF (L14_6 4294967296 (Int32.ofInt 0) H3 _ _ j_Mf.rf tH3 (fun k hk => absurd hk (by omega)) (by omega) (by (try dsimp only); omega) (by (try dsimp only); omega) (by omega) (by omega)) (And.intro rfl (And.intro rfl (And.intro rfl trivial)))
set_option maxHeartbeats 4000000 in
set_option maxRecDepth 20000 in
theorem c_Mo_earlyOfx {ρ : Nat → Nat} {h : j_H} {m P G R Q : Nat} {s g : Nat} {Z : j_Z} {a : Int32} {b : Int32} (w : j_MX ρ h m P G R Q) (ks : j_kd h s = some (.inr 0)) (ns : (j_ln h s : Int) = 2 * (j_it h R 2).toInt) (hg : a.toInt = (g : Int)) (e : z_eq (z_d h m P G R Q) Z) (hs : ∀ k : Nat, (k : Int) < (j_it h R 2).toInt → j_it h s (2 * k) = z_er Z k) : j_Ct 176 4 88 0 0 [j_r (some m), j_r (some s), j_i a, j_i b] h (fun v h' => h' = h ∧ v = some (j_i (z_eO Z g b (Int32.ofInt (-1))))) j_no := by
  refine j_intro km_176 (Nat.le_of_ble_eq_true rfl) ?_
  intro J hJ hF
  have wb := w.b
  refine hJ [6] 400 _ _ _ _ _ _ ?_
  have L6_3 : ∀ (k : Nat) (v1 : Int32) (v2 : Int32), 0 ≤ v2.toInt → v2.toInt ≤ (j_it h R 2).toInt → v1 = z_fM (z_pw Z g b (Int32.ofInt (-1))) (z_er Z) v2.toNatClampNeg → (2147483647 - v2.toInt) < (k : Int) → J 6 [some (j_r (some m)), some (j_r (some s)), some (j_i a), some (j_i b), some (j_i v1), some (j_i v2)] [] h 0 0 := by
    intro k
    induction k with
    | zero => intro v1 v2 hn hl hv hm; exact absurd hm (by have := j_ub v2; omega)
    | succ k ihB4 =>
      intro v1 v2 hn hl hv hm
      have uv1 := j_ub v1; have lv1 := j_lb v1
      have uv2 := j_ub v2; have lv2 := j_lb v2
      refine hJ [6] 400 _ _ _ _ _ _ ?_
      conv => whnf
      refine ⟨_, rfl, w.km, fun o5 eo => ?_⟩
      obtain rfl : o5 = some R := eo.symm.trans w.eR
      conv => whnf
      refine ⟨w.lR.1, rfl, _, _, _, _, _, _, c_AL_size (h := h) w.lR j_Sc.rf j_sf_ok, ⟨Nat.le_of_ble_eq_true rfl, Nat.le_of_ble_eq_true rfl, Nat.le_of_ble_eq_true rfl, Nat.le_of_ble_eq_true rfl⟩, fun _ _ z => False.elim z, ?_⟩
      rintro v9 h9 ⟨e9, rfl⟩
      obtain rfl : h = h9 := e9.symm
      have u6 := j_ub v2
      conv => whnf
      refine ⟨fun c7 => ?_, fun c7 => ?_⟩
      · have c7 : ((j_it h R 2)).toInt ≤ (v2).toInt := c7
        conv => whnf
        exact ⟨trivial, ⟨Nat.le_of_ble_eq_true rfl, Nat.le_of_ble_eq_true rfl⟩, rfl, congrArg (fun r => some (j_i r)) (hv.trans (by rw [show v2 = Z.1 1 from (Int32.toInt_inj.mp (show v2.toInt = (j_it h R 2).toInt by omega)).trans (e.1 1 (by decide))]; rfl))⟩
      · have c7 : ¬ ((j_it h R 2)).toInt ≤ (v2).toInt := c7
        conv => whnf
        refine ⟨w.km, rfl, _, _, _, _, _, _, c_Mo_countsx w ⟨by omega, by omega⟩ hg, ⟨Nat.le_of_ble_eq_true rfl, Nat.le_of_ble_eq_true rfl, Nat.le_of_ble_eq_true rfl, Nat.le_of_ble_eq_true rfl⟩, fun _ _ z => False.elim z, ?_⟩
        rintro v9 h9 ⟨e9, rfl⟩
        obtain rfl : h = h9 := e9.symm
        conv => whnf
        have lk : (v2.toNatClampNeg : Int) < (j_it h R 2).toInt := by rw [j_clamp hn]; omega
        have pk : z_says (z_d h m P G R Q) g b v2.toNatClampNeg = z_pw Z g b (Int32.ofInt (-1)) v2.toNatClampNeg := (z_says_c e lk).trans z_pw1.symm
        have cn : (v2 + Int32.ofInt 1).toNatClampNeg = v2.toNatClampNeg + 1 := by
          have e1 := j_inc1 (x := v2) (by omega)
          have := j_clamp (i := v2 + Int32.ofInt 1) (by omega)
          have := j_clamp hn
          omega
        rw [pk]
        refine ⟨fun c9 => ?_, fun c9 => ?_⟩
        · have c9 : (z_b (z_pw Z g b (Int32.ofInt (-1)) v2.toNatClampNeg)).toInt = 0 := c9
          have t10 : (v2 + Int32.ofInt 1).toInt = v2.toInt + 1 := j_inc1 (by omega)
          exact j_use hF (ihB4 v1 (v2 + Int32.ofInt 1) (by omega) (by omega) (by
            rw [cn]
            show _ = if z_pw Z g b (Int32.ofInt (-1)) v2.toNatClampNeg = true then z_mAx (z_fM (z_pw Z g b (Int32.ofInt (-1))) (z_er Z) v2.toNatClampNeg) (z_er Z v2.toNatClampNeg) else z_fM (z_pw Z g b (Int32.ofInt (-1))) (z_er Z) v2.toNatClampNeg
            rw [if_neg (by rw [z_b0.mp c9]; decide)]
            exact hv) (by omega)) (And.intro rfl (And.intro rfl (And.intro rfl (And.intro rfl (And.intro rfl (And.intro rfl trivial))))))
        · have c9 : ¬ (z_b (z_pw Z g b (Int32.ofInt (-1)) v2.toNatClampNeg)).toInt = 0 := c9
          conv => whnf
          refine ⟨_, _, rfl, ks, rfl, j_vp (by rw [j_dbl (by omega) (by omega)]; omega) (by rw [j_dbl (by omega) (by omega)]; omega), fun x11 ex11 => ?_⟩
          have vx11 : x11 = z_er Z v2.toNatClampNeg := by
            have i1 : ((Int32.ofInt (2) * v2)).toNatClampNeg = 2 * v2.toNatClampNeg := by
              have e2 := j_dbl (x := v2) (by omega) (by omega)
              have := j_clamp (i := (Int32.ofInt (2) * v2)) (by omega)
              have := j_clamp hn
              omega
            rw [i1] at ex11
            exact ex11.symm.trans (hs _ lk)
          conv => whnf
          refine ⟨⟨Nat.le_of_ble_eq_true rfl, Nat.le_of_ble_eq_true rfl, Nat.le_of_ble_eq_true rfl, Nat.le_of_ble_eq_true rfl⟩, ?_⟩
          have t12 : (v2 + Int32.ofInt 1).toInt = v2.toInt + 1 := j_inc1 (by omega)
          exact j_use hF (ihB4 (z_mAx v1 x11) (v2 + Int32.ofInt 1) (by omega) (by omega) (by
            rw [cn]
            show _ = if z_pw Z g b (Int32.ofInt (-1)) v2.toNatClampNeg = true then z_mAx (z_fM (z_pw Z g b (Int32.ofInt (-1))) (z_er Z) v2.toNatClampNeg) (z_er Z v2.toNatClampNeg) else z_fM (z_pw Z g b (Int32.ofInt (-1))) (z_er Z) v2.toNatClampNeg
            rw [if_pos (z_bn c9), ← hv, ← vx11]) (by omega)) (And.intro rfl (And.intro rfl (And.intro rfl (And.intro rfl (And.intro rfl (And.intro rfl trivial))))))
  have q13 : (Int32.ofInt (0)).toInt = 0 := by decide
  exact j_use hF (L6_3 4294967296 (Int32.ofInt 0) (Int32.ofInt 0) (by omega) (by omega) (by rw [show (Int32.ofInt 0).toNatClampNeg = 0 by decide]; rfl) (by omega)) (And.intro rfl (And.intro rfl (And.intro rfl (And.intro rfl (And.intro rfl (And.intro rfl trivial))))))
set_option maxHeartbeats 4000000 in
set_option maxRecDepth 20000 in
theorem c_Mo_lateOfx {ρ : Nat → Nat} {h : j_H} {m P G R Q : Nat} {s g : Nat} {Z : j_Z} {a : Int32} {b : Int32} (w : j_MX ρ h m P G R Q) (ks : j_kd h s = some (.inr 0)) (ns : (j_ln h s : Int) = 2 * (j_it h R 2).toInt) (hg : a.toInt = (g : Int)) (e : z_eq (z_d h m P G R Q) Z) (hs : ∀ k : Nat, (k : Int) < (j_it h R 2).toInt → j_it h s (2 * k + 1) = z_lr Z k) : j_Ct 191 4 88 0 0 [j_r (some m), j_r (some s), j_i a, j_i b] h (fun v h' => h' = h ∧ v = some (j_i (z_lO Z g b (Int32.ofInt (-1))))) j_no := by
  refine j_intro km_191 (Nat.le_of_ble_eq_true rfl) ?_
  intro J hJ hF
  have wb := w.b
  refine hJ [8] 400 _ _ _ _ _ _ ?_
  have L8_3 : ∀ (k : Nat) (v1 : Int32) (v2 : Int32), 0 ≤ v2.toInt → v2.toInt ≤ (j_it h R 2).toInt → v1 = z_fm (z_pw Z g b (Int32.ofInt (-1))) (z_lr Z) v2.toNatClampNeg → (2147483647 - v2.toInt) < (k : Int) → J 8 [some (j_r (some m)), some (j_r (some s)), some (j_i a), some (j_i b), some (j_i v1), some (j_i v2)] [] h 0 0 := by
    intro k
    induction k with
    | zero => intro v1 v2 hn hl hv hm; exact absurd hm (by have := j_ub v2; omega)
    | succ k ihB4 =>
      intro v1 v2 hn hl hv hm
      have uv1 := j_ub v1; have lv1 := j_lb v1
      have uv2 := j_ub v2; have lv2 := j_lb v2
      refine hJ [8] 400 _ _ _ _ _ _ ?_
      conv => whnf
      refine ⟨_, rfl, w.km, fun o5 eo => ?_⟩
      obtain rfl : o5 = some R := eo.symm.trans w.eR
      conv => whnf
      refine ⟨w.lR.1, rfl, _, _, _, _, _, _, c_AL_size (h := h) w.lR j_Sc.rf j_sf_ok, ⟨Nat.le_of_ble_eq_true rfl, Nat.le_of_ble_eq_true rfl, Nat.le_of_ble_eq_true rfl, Nat.le_of_ble_eq_true rfl⟩, fun _ _ z => False.elim z, ?_⟩
      rintro v9 h9 ⟨e9, rfl⟩
      obtain rfl : h = h9 := e9.symm
      have u6 := j_ub v2
      conv => whnf
      refine ⟨fun c7 => ?_, fun c7 => ?_⟩
      · have c7 : ((j_it h R 2)).toInt ≤ (v2).toInt := c7
        conv => whnf
        exact ⟨trivial, ⟨Nat.le_of_ble_eq_true rfl, Nat.le_of_ble_eq_true rfl⟩, rfl, congrArg (fun r => some (j_i r)) (hv.trans (by rw [show v2 = Z.1 1 from (Int32.toInt_inj.mp (show v2.toInt = (j_it h R 2).toInt by omega)).trans (e.1 1 (by decide))]; rfl))⟩
      · have c7 : ¬ ((j_it h R 2)).toInt ≤ (v2).toInt := c7
        conv => whnf
        refine ⟨w.km, rfl, _, _, _, _, _, _, c_Mo_countsx w ⟨by omega, by omega⟩ hg, ⟨Nat.le_of_ble_eq_true rfl, Nat.le_of_ble_eq_true rfl, Nat.le_of_ble_eq_true rfl, Nat.le_of_ble_eq_true rfl⟩, fun _ _ z => False.elim z, ?_⟩
        rintro v9 h9 ⟨e9, rfl⟩
        obtain rfl : h = h9 := e9.symm
        conv => whnf
        have lk : (v2.toNatClampNeg : Int) < (j_it h R 2).toInt := by rw [j_clamp hn]; omega
        have pk : z_says (z_d h m P G R Q) g b v2.toNatClampNeg = z_pw Z g b (Int32.ofInt (-1)) v2.toNatClampNeg := (z_says_c e lk).trans z_pw1.symm
        have cn : (v2 + Int32.ofInt 1).toNatClampNeg = v2.toNatClampNeg + 1 := by
          have e1 := j_inc1 (x := v2) (by omega)
          have := j_clamp (i := v2 + Int32.ofInt 1) (by omega)
          have := j_clamp hn
          omega
        rw [pk]
        refine ⟨fun c9 => ?_, fun c9 => ?_⟩
        · have c9 : (z_b (z_pw Z g b (Int32.ofInt (-1)) v2.toNatClampNeg)).toInt = 0 := c9
          have t10 : (v2 + Int32.ofInt 1).toInt = v2.toInt + 1 := j_inc1 (by omega)
          exact j_use hF (ihB4 v1 (v2 + Int32.ofInt 1) (by omega) (by omega) (by
            rw [cn]
            show _ = if z_pw Z g b (Int32.ofInt (-1)) v2.toNatClampNeg = true then z_mIn (z_fm (z_pw Z g b (Int32.ofInt (-1))) (z_lr Z) v2.toNatClampNeg) (z_lr Z v2.toNatClampNeg) else z_fm (z_pw Z g b (Int32.ofInt (-1))) (z_lr Z) v2.toNatClampNeg
            rw [if_neg (by rw [z_b0.mp c9]; decide)]
            exact hv) (by omega)) (And.intro rfl (And.intro rfl (And.intro rfl (And.intro rfl (And.intro rfl (And.intro rfl trivial))))))
        · have c9 : ¬ (z_b (z_pw Z g b (Int32.ofInt (-1)) v2.toNatClampNeg)).toInt = 0 := c9
          conv => whnf
          refine ⟨_, _, rfl, ks, rfl, j_vp (by rw [j_dbl1 (by omega) (by omega)]; omega) (by rw [j_dbl1 (by omega) (by omega)]; omega), fun x11 ex11 => ?_⟩
          have vx11 : x11 = z_lr Z v2.toNatClampNeg := by
            have i1 : (((Int32.ofInt (2) * v2) + Int32.ofInt (1))).toNatClampNeg = 2 * v2.toNatClampNeg + 1 := by
              have e2 := j_dbl1 (x := v2) (by omega) (by omega)
              have := j_clamp (i := ((Int32.ofInt (2) * v2) + Int32.ofInt (1))) (by omega)
              have := j_clamp hn
              omega
            rw [i1] at ex11
            exact ex11.symm.trans (hs _ lk)
          conv => whnf
          refine ⟨⟨Nat.le_of_ble_eq_true rfl, Nat.le_of_ble_eq_true rfl, Nat.le_of_ble_eq_true rfl, Nat.le_of_ble_eq_true rfl⟩, ?_⟩
          have t12 : (v2 + Int32.ofInt 1).toInt = v2.toInt + 1 := j_inc1 (by omega)
          exact j_use hF (ihB4 (z_mIn v1 x11) (v2 + Int32.ofInt 1) (by omega) (by omega) (by
            rw [cn]
            show _ = if z_pw Z g b (Int32.ofInt (-1)) v2.toNatClampNeg = true then z_mIn (z_fm (z_pw Z g b (Int32.ofInt (-1))) (z_lr Z) v2.toNatClampNeg) (z_lr Z v2.toNatClampNeg) else z_fm (z_pw Z g b (Int32.ofInt (-1))) (z_lr Z) v2.toNatClampNeg
            rw [if_pos (z_bn c9), ← hv, ← vx11]) (by omega)) (And.intro rfl (And.intro rfl (And.intro rfl (And.intro rfl (And.intro rfl (And.intro rfl trivial))))))
  have q13 : (Int32.ofInt (0)).toInt = 0 := by decide
  exact j_use hF (L8_3 4294967296 ((Int16.ofInt 3000).toInt32) (Int32.ofInt 0) (by omega) (by omega) (by rw [show (Int32.ofInt 0).toNatClampNeg = 0 by decide]; rfl) (by omega)) (And.intro rfl (And.intro rfl (And.intro rfl (And.intro rfl (And.intro rfl (And.intro rfl trivial))))))
set_option maxHeartbeats 4000000 in
set_option maxRecDepth 20000 in
theorem c_Mo_quarrelsx {ρ : Nat → Nat} {h : j_H} {m P G R Q : Nat} {s g : Nat} {Z : j_Z} {a : Int32} {b : Int32} (w : j_MX ρ h m P G R Q) (ks : j_kd h s = some (.inr 0)) (ns : (j_ln h s : Int) = 2 * (j_it h R 2).toInt) (hg : a.toInt = (g : Int)) (e : z_eq (z_d h m P G R Q) Z) (hs : ∀ k : Nat, (k : Int) < (j_it h R 2).toInt → j_it h s (2 * k) = z_er Z k ∧ j_it h s (2 * k + 1) = z_lr Z k) : j_Ct 209 5 113 0 0 [j_r (some m), j_r (some s), j_i a, j_i b] h (fun v h' => h' = h ∧ v = some (j_i (z_b (decide ((z_lO Z g b (Int32.ofInt (-1))).toInt < (z_eO Z g b (Int32.ofInt (-1))).toInt))))) j_no := by
  refine j_intro km_209 (Nat.le_of_ble_eq_true rfl) ?_
  intro J hJ hF
  have wb := w.b
  refine hJ [] 400 _ _ _ _ _ _ ?_
  conv => whnf
  refine ⟨w.km, rfl, _, _, _, _, _, _, c_Mo_earlyOfx w ks (by omega) hg e (fun k hk => (hs k hk).1), ⟨Nat.le_of_ble_eq_true rfl, Nat.le_of_ble_eq_true rfl, Nat.le_of_ble_eq_true rfl, Nat.le_of_ble_eq_true rfl⟩, fun _ _ z => False.elim z, ?_⟩
  rintro v9 h9 ⟨e9, rfl⟩
  obtain rfl : h = h9 := e9.symm
  conv => whnf
  refine ⟨w.km, rfl, _, _, _, _, _, _, c_Mo_lateOfx w ks (by omega) hg e (fun k hk => (hs k hk).2), ⟨Nat.le_of_ble_eq_true rfl, Nat.le_of_ble_eq_true rfl, Nat.le_of_ble_eq_true rfl, Nat.le_of_ble_eq_true rfl⟩, fun _ _ z => False.elim z, ?_⟩
  rintro v9 h9 ⟨e9, rfl⟩
  obtain rfl : h = h9 := e9.symm
  generalize z_lO Z g b (Int32.ofInt (-1)) = r2
  generalize z_eO Z g b (Int32.ofInt (-1)) = r1
  conv => whnf
  refine ⟨fun c5 => ?_, fun c5 => ?_⟩
  · have c5 : (r1).toInt ≤ (r2).toInt := c5
    conv => whnf
    refine ⟨Or.inl rfl, ⟨Nat.le_of_ble_eq_true rfl, Nat.le_of_ble_eq_true rfl⟩, rfl, congrArg (fun r => some (j_i r)) (show Int32.ofInt 0 = _ from ?_)⟩
    rw [decide_eq_false (show ¬ r2.toInt < r1.toInt by omega)]
    rfl
  · have c5 : ¬ (r1).toInt ≤ (r2).toInt := c5
    conv => whnf
    refine ⟨Or.inr rfl, ⟨Nat.le_of_ble_eq_true rfl, Nat.le_of_ble_eq_true rfl⟩, rfl, congrArg (fun r => some (j_i r)) (show Int32.ofInt 1 = _ from ?_)⟩
    rw [decide_eq_true (show r2.toInt < r1.toInt by omega)]
    rfl
set_option maxHeartbeats 4000000 in
set_option maxRecDepth 20000 in
theorem c_Mo_widthx {ρ : Nat → Nat} {h : j_H} {m P G R Q : Nat} {a : Int32} (w : j_MX ρ h m P G R Q) (V : z_V (z_d h m P G R Q)) (ha : 0 ≤ a.toInt ∧ a.toInt < (j_it h G 2).toInt) : j_Ct 227 5 113 1 40 [j_r (some m), j_i a] h (fun v h' => (j_Mf ρ m h h' ∧ j_it h' m 0 = j_it h m 0) ∧ v = some (j_i (z_lO (z_d h m P G R Q) a.toNatClampNeg (Int32.ofInt (-1)) (Int32.ofInt (-1)) - z_eO (z_d h m P G R Q) a.toNatClampNeg (Int32.ofInt (-1)) (Int32.ofInt (-1))))) j_no := by
  refine j_intro km_227 (Nat.le_of_ble_eq_true rfl) ?_
  intro J hJ hF
  have wb := w.b
  refine hJ [] 400 _ _ _ _ _ _ ?_
  conv => whnf
  refine ⟨w.km, rfl, _, _, _, _, _, _, c_Mo_spansx w V, ⟨Nat.le_of_ble_eq_true rfl, Nat.le_of_ble_eq_true rfl, by (try dsimp only); omega, by (try dsimp only); omega⟩, fun _ _ z => False.elim z, ?_⟩
  rintro v9 H2 ⟨⟨st3, tH2⟩, r1, rfl, kr1, nr1, vr1⟩
  have E3 := z_mfd w st3
  have zG4 := congrArg Int32.toInt (st3.sz w.lG.1)
  have zR4 := congrArg Int32.toInt (st3.sz w.lR.1)
  have zQ4 := congrArg Int32.toInt (st3.sz w.lQ.1)
  have w4 := w.f st3
  have f4_0 := (j_Mf.rf : j_Mf ρ m h h).tr st3
  have q5 : (Int32.ofInt (-1)).toInt = -1 := by decide
  conv => whnf
  refine ⟨w4.km, rfl, _, _, _, _, _, _, c_Mo_lateOfx w4 kr1 (by omega) (j_clamp ha.1).symm E3 (fun k hk => (vr1 k (by omega)).2), ⟨Nat.le_of_ble_eq_true rfl, Nat.le_of_ble_eq_true rfl, by (try dsimp only); omega, by (try dsimp only); omega⟩, fun _ _ z => False.elim z, ?_⟩
  rintro v9 h9 ⟨e9, rfl⟩
  obtain rfl : H2 = h9 := e9.symm
  have q7 : (Int32.ofInt (-1)).toInt = -1 := by decide
  conv => whnf
  refine ⟨w4.km, rfl, _, _, _, _, _, _, c_Mo_earlyOfx w4 kr1 (by omega) (j_clamp ha.1).symm E3 (fun k hk => (vr1 k (by omega)).1), ⟨Nat.le_of_ble_eq_true rfl, Nat.le_of_ble_eq_true rfl, by (try dsimp only); omega, by (try dsimp only); omega⟩, fun _ _ z => False.elim z, ?_⟩
  rintro v9 h9 ⟨e9, rfl⟩
  obtain rfl : H2 = h9 := e9.symm
  conv => whnf
  exact ⟨trivial, ⟨by (try dsimp only); omega, by (try dsimp only); omega⟩, ⟨f4_0, tH2⟩, rfl⟩
def z_sq (z : j_Z) (g : Nat) (c : Int32) (w : Nat) : Int32 := if w = 0 then z_eO z g c (Int32.ofInt (-1)) else if w = 1 then z_lO z g c (Int32.ofInt (-1)) else z_b (decide ((z_lO z g c (Int32.ofInt (-1))).toInt < (z_eO z g c (Int32.ofInt (-1))).toInt))
noncomputable def q_span (z : j_Z) (a b c : Int32) : Int := j_cq ((0 ≤ a.toInt ∧ a.toInt < (z.1 0).toInt) ∧ (b.toInt = -1 ∨ b.toInt = 0 ∨ b.toInt = 1)) (j_cq (0 ≤ c.toInt ∧ c.toInt ≤ 2) 0 2) 1
noncomputable def q_wider (z : j_Z) (a b : Int32) : Int := j_cq ((0 ≤ a.toInt ∧ a.toInt < (z.1 0).toInt) ∧ (0 ≤ b.toInt ∧ b.toInt < (z.1 1).toInt)) (j_cq (¬ (z.2.2.2.1 b.toNatClampNeg 6).toInt = 0) 0 2) 1
/-- how much wider without a run -/
def z_wd (z : j_Z) (g : Nat) (r : Int32) : Int32 := (z_lO z g (Int32.ofInt (-1)) r - z_eO z g (Int32.ofInt (-1)) r) - (z_lO z g (Int32.ofInt (-1)) (Int32.ofInt (-1)) - z_eO z g (Int32.ofInt (-1)) (Int32.ofInt (-1)))
theorem z_sq_c {A B : j_Z} (e : z_eq A B) (h0 : 0 ≤ (A.1 1).toInt) {g w : Nat} {c : Int32} : z_sq A g c w = z_sq B g c w := by
  unfold z_sq
  rw [z_eO_c e h0, z_lO_c e h0]
theorem z_wd_c {A B : j_Z} (e : z_eq A B) (h0 : 0 ≤ (A.1 1).toInt) {g : Nat} {r : Int32} : z_wd A g r = z_wd B g r := by
  unfold z_wd
  rw [z_eO_c e h0, z_lO_c e h0, z_eO_c e h0, z_lO_c e h0]
theorem q_span_c {A B : j_Z} {a b c : Int32} (e : z_eq A B) : q_span A a b c = q_span B a b c := by
  unfold q_span
  rw [e.1 0 (by decide)]
theorem q_wider_c {A B : j_Z} {a b : Int32} (e : z_eq A B) : q_wider A a b = q_wider B a b := by
  have e0 := e.1 0 (by decide)
  have e1 := e.1 1 (by decide)
  by_cases o : (0 ≤ a.toInt ∧ a.toInt < (A.1 0).toInt) ∧ (0 ≤ b.toInt ∧ b.toInt < (A.1 1).toInt)
  · have e6 := e.2.2.2.1 b.toNatClampNeg 6 (j_ltc o.2.1 o.2.2) (by decide)
    unfold q_wider
    rw [e0, e1, e6]
  · exact (j_cqn o).trans (j_cqn (by rw [← e0, ← e1]; exact o)).symm
/-- a run withdrawn tells nothing -/
theorem z_pw_wd {z : j_Z} {g k : Nat} {c r : Int32} (hr : 0 ≤ r.toInt) : z_pw (n_withdraw z r) g c (Int32.ofInt (-1)) k = z_pw z g c r k := by
  rw [z_pw1]
  have cl := j_clamp hr
  by_cases h : k = r.toNatClampNeg
  · have e : z_pw z g c r k = false := by
      unfold z_pw
      rw [decide_eq_false (show ¬ ¬ (k : Int) = r.toInt by omega), Bool.false_and]
    rw [e]
    refine z_says6 ?_
    show (if k = r.toNatClampNeg then (if 6 = 6 then Int32.ofInt 0 else z.2.2.2.1 k 6) else z.2.2.2.1 k 6).toInt = 0
    rw [if_pos h, if_pos rfl]
    decide
  · have e : z_pw z g c r k = z_says z g c k := by
      unfold z_pw
      rw [decide_eq_true (show ¬ (k : Int) = r.toInt by omega), Bool.true_and]
    rw [e]
    have f : ∀ j, (n_withdraw z r).2.2.2.1 k j = z.2.2.2.1 k j := fun j => if_neg h
    unfold z_says
    rw [f, f, f]
theorem z_row_wd {z : j_Z} {k : Nat} {r : Int32} (f : Nat) (hf : f ≠ 6) : (n_withdraw z r).2.2.2.1 k f = z.2.2.2.1 k f := by
  show (if k = r.toNatClampNeg then (if f = 6 then Int32.ofInt 0 else z.2.2.2.1 k f) else z.2.2.2.1 k f) = _
  rw [if_neg hf]
  by_cases h : k = r.toNatClampNeg
  · rw [if_pos h]
  · rw [if_neg h]
theorem z_eO_wd {z : j_Z} {g : Nat} {c r : Int32} (hr : 0 ≤ r.toInt) : z_eO (n_withdraw z r) g c (Int32.ofInt (-1)) = z_eO z g c r := by
  unfold z_eO
  refine z_fM_c _ (fun k hk => z_pw_wd hr) (fun k hk => ?_)
  unfold z_er z_tp
  rw [z_row_wd 1 (by decide), z_row_wd 2 (by decide), z_row_wd 3 (by decide), z_row_wd 4 (by decide), z_row_wd 5 (by decide)]
  rfl
theorem z_lO_wd {z : j_Z} {g : Nat} {c r : Int32} (hr : 0 ≤ r.toInt) : z_lO (n_withdraw z r) g c (Int32.ofInt (-1)) = z_lO z g c r := by
  unfold z_lO
  refine z_fm_c _ (fun k hk => z_pw_wd hr) (fun k hk => ?_)
  unfold z_lr z_tp
  rw [z_row_wd 1 (by decide), z_row_wd 2 (by decide), z_row_wd 3 (by decide), z_row_wd 4 (by decide), z_row_wd 5 (by decide)]
  rfl
set_option maxHeartbeats 4000000 in
set_option maxRecDepth 20000 in
theorem c_Mo_spanz {ρ : Nat → Nat} {h : j_H} {m P G R Q : Nat} {a : Int32} {b : Int32} {c : Int32} (w : j_MX ρ h m P G R Q) (V : z_V (z_d h m P G R Q)) : j_Ct 213 6 136 1 40 [j_r (some m), j_i a, j_i b, j_i c] h (z_MQ m P G R Q h (q_span (z_d h m P G R Q) a b c) (z_sq (z_d h m P G R Q) a.toNatClampNeg b c.toNatClampNeg) (z_d h m P G R Q)) j_no := by
  refine j_intro km_213 (Nat.le_of_ble_eq_true rfl) ?_
  intro J hJ hF
  have wb := w.b
  refine hJ [] 400 _ _ _ _ _ _ ?_
  conv => whnf
  refine ⟨_, rfl, w.km, ?_⟩
  show j_go _ _ _ _ _ _ _ _ _ _ (j_up h m 0 (j_i (Int32.ofInt (0)))) _ _
  have st1 : j_Mf ρ m h (j_up h m 0 (j_i (Int32.ofInt (0)))) := j_Mf.fi w.km (by decide)
  have tH1 : j_it (j_up h m 0 (j_i (Int32.ofInt (0)))) m 0 = Int32.ofInt 0 := j_upi
  generalize j_up h m 0 (j_i (Int32.ofInt (0))) = H1 at st1 tH1 ⊢
  have zG1 := congrArg Int32.toInt (st1.sz w.lG.1)
  have zR1 := congrArg Int32.toInt (st1.sz w.lR.1)
  have zQ1 := congrArg Int32.toInt (st1.sz w.lQ.1)
  have w1 := w.f st1
  have f1_0 := (j_Mf.rf : j_Mf ρ m h h).tr st1
  have E1 := z_mfd w st1
  have QP : q_span (z_d h m P G R Q) a b c = q_span (z_d H1 m P G R Q) a b c := q_span_c E1.sy
  conv => whnf
  refine ⟨w1.km, rfl, _, _, _, _, _, _, c_Mo_isGrainx w1, ⟨Nat.le_of_ble_eq_true rfl, Nat.le_of_ble_eq_true rfl, by (try dsimp only); omega, by (try dsimp only); omega⟩, fun _ _ z => False.elim z, ?_⟩
  rintro v9 h9 ⟨e9, r2, rfl, zr2⟩
  have mr2 := j_zy zr2
  obtain rfl : H1 = h9 := e9.symm
  conv => whnf
  refine ⟨fun c3 => ?_, fun c3 => ?_⟩
  · have c3 : (r2).toInt = 0 := c3
    have q4 : (Int32.ofInt (1)).toInt = 1 := by decide
    conv => whnf
    refine ⟨w1.km, rfl, _, _, _, _, _, _, c_Mo_refusex w1.km, ⟨Nat.le_of_ble_eq_true rfl, Nat.le_of_ble_eq_true rfl, by (try dsimp only); omega, by (try dsimp only); omega⟩, fun _ _ z => False.elim z, ?_⟩
    rintro v9 H6 ⟨rfl, eH6⟩
    have st7 : j_Mf ρ m H1 H6 := by rw [eH6]; exact j_Mf.fi w1.km (by decide)
    have tH6 : j_it H6 m 0 = Int32.ofInt 1 := by rw [eH6]; exact j_upi
    have zG8 := congrArg Int32.toInt (st7.sz w1.lG.1)
    have zR8 := congrArg Int32.toInt (st7.sz w1.lR.1)
    have zQ8 := congrArg Int32.toInt (st7.sz w1.lQ.1)
    have w8 := w1.f st7
    have f8_0 := f1_0.tr st7
    conv => whnf
    exact ⟨trivial, ⟨Nat.le_of_ble_eq_true rfl, Nat.le_of_ble_eq_true rfl⟩, z_MQ.no w f8_0 tH6 (QP.trans (j_cqn (fun z => by have z1 : a.toInt < (j_it H1 G 2).toInt := z.1.2; have z0 := z.1.1; omega))) (by decide)⟩
  · have c3 : ¬ (r2).toInt = 0 := c3
    have q9 : (Int32.ofInt (-1)).toInt = -1 := by decide
    have q10 : (Int32.ofInt (1)).toInt = 1 := by decide
    conv => whnf
    refine ⟨rfl, _, _, _, _, _, _, c_Mo_isx, ⟨Nat.le_of_ble_eq_true rfl, Nat.le_of_ble_eq_true rfl, by (try dsimp only); omega, by (try dsimp only); omega⟩, fun _ _ z => False.elim z, ?_⟩
    rintro v9 h9 ⟨e9, r11, rfl, zr11⟩
    have mr11 := j_zx zr11
    obtain rfl : H1 = h9 := e9.symm
    conv => whnf
    refine ⟨fun c12 => ?_, fun c12 => ?_⟩
    · have c12 : ¬ (r11).toInt = 0 := c12
      have q13 : (Int32.ofInt (0)).toInt = 0 := by decide
      have q14 : (Int32.ofInt (2)).toInt = 2 := by decide
      conv => whnf
      refine ⟨rfl, _, _, _, _, _, _, c_Mo_isx, ⟨Nat.le_of_ble_eq_true rfl, Nat.le_of_ble_eq_true rfl, by (try dsimp only); omega, by (try dsimp only); omega⟩, fun _ _ z => False.elim z, ?_⟩
      rintro v9 h9 ⟨e9, r15, rfl, zr15⟩
      have mr15 := j_zx zr15
      obtain rfl : H1 = h9 := e9.symm
      conv => whnf
      refine ⟨fun c16 => ?_, fun c16 => ?_⟩
      · have c16 : ¬ (r15).toInt = 0 := c16
        conv => whnf
        refine ⟨w1.km, rfl, _, _, _, _, _, _, c_Mo_spansx w1 (V.eq E1), ⟨Nat.le_of_ble_eq_true rfl, Nat.le_of_ble_eq_true rfl, by (try dsimp only); omega, by (try dsimp only); omega⟩, fun _ _ z => False.elim z, ?_⟩
        rintro v9 H18 ⟨⟨st19, tH18⟩, r17, rfl, kr17, nr17, vr17⟩
        have E18 := z_mfd w1 st19
        have tq := tH18.trans tH1
        have h01 := w1.b.2.1.1
        have QK := QP.trans ((j_cqp (show (0 ≤ a.toInt ∧ a.toInt < ((z_d H1 m P G R Q).1 0).toInt) ∧ (b.toInt = -1 ∨ b.toInt = 0 ∨ b.toInt = 1) from ⟨⟨by omega, show a.toInt < (j_it H1 G 2).toInt by omega⟩, by omega⟩)).trans (j_cqp (show 0 ≤ c.toInt ∧ c.toInt ≤ 2 from ⟨by omega, by omega⟩)))
        have clc := j_clamp (i := c) (by omega)
        have zG20 := congrArg Int32.toInt (st19.sz w1.lG.1)
        have zR20 := congrArg Int32.toInt (st19.sz w1.lR.1)
        have zQ20 := congrArg Int32.toInt (st19.sz w1.lQ.1)
        have w20 := w1.f st19
        have f20_0 := f1_0.tr st19
        conv => whnf
        refine ⟨fun c21 => ?_, fun c21 => ?_⟩
        · have c21 : ¬ (c).toInt = 0 := c21
          have q22 : (Int32.ofInt (1)).toInt = 1 := by decide
          have u23 := j_ub c
          conv => whnf
          refine ⟨fun c24 => ?_, fun c24 => ?_⟩
          · have c24 : ¬ (c).toInt = (Int32.ofInt (1)).toInt := c24
            conv => whnf
            refine ⟨w20.km, rfl, _, _, _, _, _, _, c_Mo_quarrelsx w20 kr17 (by omega) (j_clamp (i := a) (by omega)).symm E18 (fun k hk => (vr17 k (by omega))), ⟨Nat.le_of_ble_eq_true rfl, Nat.le_of_ble_eq_true rfl, by (try dsimp only); omega, by (try dsimp only); omega⟩, fun _ _ z => False.elim z, ?_⟩
            rintro v9 h9 ⟨e9, rfl⟩
            obtain rfl : H18 = h9 := e9.symm
            conv => whnf
            refine ⟨fun c26 => ?_, fun c26 => ?_⟩
            · have c26 : (z_b (decide ((z_lO (z_d H1 m P G R Q) a.toNatClampNeg b (Int32.ofInt (-1))).toInt < (z_eO (z_d H1 m P G R Q) a.toNatClampNeg b (Int32.ofInt (-1))).toInt))).toInt = 0 := c26
              conv => whnf
              exact ⟨trivial, ⟨Nat.le_of_ble_eq_true rfl, Nat.le_of_ble_eq_true rfl⟩, z_MQ.ok ⟨ρ, w20⟩ (f20_0.mg w) tq QK (z_mfd w f20_0) (by
                rw [← z_sq_c E1 h01]
                unfold z_sq
                rw [if_neg (show ¬ c.toNatClampNeg = 0 by omega), if_neg (show ¬ c.toNatClampNeg = 1 by omega), z_b0.mp c26]
                rfl)⟩
            · have c26 : ¬ (z_b (decide ((z_lO (z_d H1 m P G R Q) a.toNatClampNeg b (Int32.ofInt (-1))).toInt < (z_eO (z_d H1 m P G R Q) a.toNatClampNeg b (Int32.ofInt (-1))).toInt))).toInt = 0 := c26
              conv => whnf
              exact ⟨trivial, ⟨Nat.le_of_ble_eq_true rfl, Nat.le_of_ble_eq_true rfl⟩, z_MQ.ok ⟨ρ, w20⟩ (f20_0.mg w) tq QK (z_mfd w f20_0) (by
                rw [← z_sq_c E1 h01]
                unfold z_sq
                rw [if_neg (show ¬ c.toNatClampNeg = 0 by omega), if_neg (show ¬ c.toNatClampNeg = 1 by omega), z_bn c26]
                rfl)⟩
          · have c24 : ¬ ¬ (c).toInt = (Int32.ofInt (1)).toInt := c24
            conv => whnf
            refine ⟨w20.km, rfl, _, _, _, _, _, _, c_Mo_lateOfx w20 kr17 (by omega) (j_clamp (i := a) (by omega)).symm E18 (fun k hk => (vr17 k (by omega)).2), ⟨Nat.le_of_ble_eq_true rfl, Nat.le_of_ble_eq_true rfl, by (try dsimp only); omega, by (try dsimp only); omega⟩, fun _ _ z => False.elim z, ?_⟩
            rintro v9 h9 ⟨e9, rfl⟩
            obtain rfl : H18 = h9 := e9.symm
            conv => whnf
            exact ⟨trivial, ⟨Nat.le_of_ble_eq_true rfl, Nat.le_of_ble_eq_true rfl⟩, z_MQ.ok ⟨ρ, w20⟩ (f20_0.mg w) tq QK (z_mfd w f20_0) (by
                rw [← z_sq_c E1 h01]
                unfold z_sq
                rw [if_neg (show ¬ c.toNatClampNeg = 0 by omega), if_pos (show c.toNatClampNeg = 1 by omega)])⟩
        · have c21 : ¬ ¬ (c).toInt = 0 := c21
          conv => whnf
          refine ⟨w20.km, rfl, _, _, _, _, _, _, c_Mo_earlyOfx w20 kr17 (by omega) (j_clamp (i := a) (by omega)).symm E18 (fun k hk => (vr17 k (by omega)).1), ⟨Nat.le_of_ble_eq_true rfl, Nat.le_of_ble_eq_true rfl, by (try dsimp only); omega, by (try dsimp only); omega⟩, fun _ _ z => False.elim z, ?_⟩
          rintro v9 h9 ⟨e9, rfl⟩
          obtain rfl : H18 = h9 := e9.symm
          conv => whnf
          exact ⟨trivial, ⟨Nat.le_of_ble_eq_true rfl, Nat.le_of_ble_eq_true rfl⟩, z_MQ.ok ⟨ρ, w20⟩ (f20_0.mg w) tq QK (z_mfd w f20_0) (by
                rw [← z_sq_c E1 h01]
                unfold z_sq
                rw [if_pos (show c.toNatClampNeg = 0 by omega)])⟩
      · have c16 : ¬ ¬ (r15).toInt = 0 := c16
        have q29 : (Int32.ofInt (2)).toInt = 2 := by decide
        conv => whnf
        refine ⟨w1.km, rfl, _, _, _, _, _, _, c_Mo_refusex w1.km, ⟨Nat.le_of_ble_eq_true rfl, Nat.le_of_ble_eq_true rfl, by (try dsimp only); omega, by (try dsimp only); omega⟩, fun _ _ z => False.elim z, ?_⟩
        rintro v9 H31 ⟨rfl, eH31⟩
        have st32 : j_Mf ρ m H1 H31 := by rw [eH31]; exact j_Mf.fi w1.km (by decide)
        have tH31 : j_it H31 m 0 = Int32.ofInt 2 := by rw [eH31]; exact j_upi
        have zG33 := congrArg Int32.toInt (st32.sz w1.lG.1)
        have zR33 := congrArg Int32.toInt (st32.sz w1.lR.1)
        have zQ33 := congrArg Int32.toInt (st32.sz w1.lQ.1)
        have w33 := w1.f st32
        have f33_0 := f1_0.tr st32
        conv => whnf
        exact ⟨trivial, ⟨Nat.le_of_ble_eq_true rfl, Nat.le_of_ble_eq_true rfl⟩, z_MQ.no w f33_0 tH31 (QP.trans ((j_cqp (show (0 ≤ a.toInt ∧ a.toInt < ((z_d H1 m P G R Q).1 0).toInt) ∧ (b.toInt = -1 ∨ b.toInt = 0 ∨ b.toInt = 1) from ⟨⟨by omega, show a.toInt < (j_it H1 G 2).toInt by omega⟩, by omega⟩)).trans (j_cqn (fun z => by omega)))) (by decide)⟩
    · have c12 : ¬ ¬ (r11).toInt = 0 := c12
      have q34 : (Int32.ofInt (1)).toInt = 1 := by decide
      conv => whnf
      refine ⟨w1.km, rfl, _, _, _, _, _, _, c_Mo_refusex w1.km, ⟨Nat.le_of_ble_eq_true rfl, Nat.le_of_ble_eq_true rfl, by (try dsimp only); omega, by (try dsimp only); omega⟩, fun _ _ z => False.elim z, ?_⟩
      rintro v9 H36 ⟨rfl, eH36⟩
      have st37 : j_Mf ρ m H1 H36 := by rw [eH36]; exact j_Mf.fi w1.km (by decide)
      have tH36 : j_it H36 m 0 = Int32.ofInt 1 := by rw [eH36]; exact j_upi
      have zG38 := congrArg Int32.toInt (st37.sz w1.lG.1)
      have zR38 := congrArg Int32.toInt (st37.sz w1.lR.1)
      have zQ38 := congrArg Int32.toInt (st37.sz w1.lQ.1)
      have w38 := w1.f st37
      have f38_0 := f1_0.tr st37
      conv => whnf
      exact ⟨trivial, ⟨Nat.le_of_ble_eq_true rfl, Nat.le_of_ble_eq_true rfl⟩, z_MQ.no w f38_0 tH36 (QP.trans (j_cqn (fun z => by have z1 := z.2; omega))) (by decide)⟩
set_option maxHeartbeats 4000000 in
set_option maxRecDepth 20000 in
theorem c_Mo_widerz {ρ : Nat → Nat} {h : j_H} {m P G R Q : Nat} {a : Int32} {b : Int32} (w : j_MX ρ h m P G R Q) (V : z_V (z_d h m P G R Q)) : j_Ct 226 6 135 2 80 [j_r (some m), j_i a, j_i b] h (z_MQ m P G R Q h (q_wider (z_d h m P G R Q) a b) (z_wd (z_d h m P G R Q) a.toNatClampNeg b) (z_d h m P G R Q)) j_no := by
  refine j_intro km_226 (Nat.le_of_ble_eq_true rfl) ?_
  intro J hJ hF
  have wb := w.b
  refine hJ [] 400 _ _ _ _ _ _ ?_
  conv => whnf
  refine ⟨_, rfl, w.km, ?_⟩
  show j_go _ _ _ _ _ _ _ _ _ _ (j_up h m 0 (j_i (Int32.ofInt (0)))) _ _
  have st1 : j_Mf ρ m h (j_up h m 0 (j_i (Int32.ofInt (0)))) := j_Mf.fi w.km (by decide)
  have tH1 : j_it (j_up h m 0 (j_i (Int32.ofInt (0)))) m 0 = Int32.ofInt 0 := j_upi
  generalize j_up h m 0 (j_i (Int32.ofInt (0))) = H1 at st1 tH1 ⊢
  have zG1 := congrArg Int32.toInt (st1.sz w.lG.1)
  have zR1 := congrArg Int32.toInt (st1.sz w.lR.1)
  have zQ1 := congrArg Int32.toInt (st1.sz w.lQ.1)
  have w1 := w.f st1
  have f1_0 := (j_Mf.rf : j_Mf ρ m h h).tr st1
  have E1 := z_mfd w st1
  have QP : q_wider (z_d h m P G R Q) a b = q_wider (z_d H1 m P G R Q) a b := q_wider_c E1.sy
  conv => whnf
  refine ⟨w1.km, rfl, _, _, _, _, _, _, c_Mo_isGrainx w1, ⟨Nat.le_of_ble_eq_true rfl, Nat.le_of_ble_eq_true rfl, by (try dsimp only); omega, by (try dsimp only); omega⟩, fun _ _ z => False.elim z, ?_⟩
  rintro v9 h9 ⟨e9, r2, rfl, zr2⟩
  have mr2 := j_zy zr2
  obtain rfl : H1 = h9 := e9.symm
  conv => whnf
  refine ⟨fun c3 => ?_, fun c3 => ?_⟩
  · have c3 : (r2).toInt = 0 := c3
    have q4 : (Int32.ofInt (1)).toInt = 1 := by decide
    conv => whnf
    refine ⟨w1.km, rfl, _, _, _, _, _, _, c_Mo_refusex w1.km, ⟨Nat.le_of_ble_eq_true rfl, Nat.le_of_ble_eq_true rfl, by (try dsimp only); omega, by (try dsimp only); omega⟩, fun _ _ z => False.elim z, ?_⟩
    rintro v9 H6 ⟨rfl, eH6⟩
    have st7 : j_Mf ρ m H1 H6 := by rw [eH6]; exact j_Mf.fi w1.km (by decide)
    have tH6 : j_it H6 m 0 = Int32.ofInt 1 := by rw [eH6]; exact j_upi
    have zG8 := congrArg Int32.toInt (st7.sz w1.lG.1)
    have zR8 := congrArg Int32.toInt (st7.sz w1.lR.1)
    have zQ8 := congrArg Int32.toInt (st7.sz w1.lQ.1)
    have w8 := w1.f st7
    have f8_0 := f1_0.tr st7
    conv => whnf
    exact ⟨trivial, ⟨Nat.le_of_ble_eq_true rfl, Nat.le_of_ble_eq_true rfl⟩, z_MQ.no w f8_0 tH6 (QP.trans (j_cqn (fun z => by have z1 : a.toInt < (j_it H1 G 2).toInt := z.1.2; have z0 := z.1.1; omega))) (by decide)⟩
  · have c3 : ¬ (r2).toInt = 0 := c3
    conv => whnf
    refine ⟨w1.km, rfl, _, _, _, _, _, _, c_Mo_isRunx w1, ⟨Nat.le_of_ble_eq_true rfl, Nat.le_of_ble_eq_true rfl, by (try dsimp only); omega, by (try dsimp only); omega⟩, fun _ _ z => False.elim z, ?_⟩
    rintro v9 h9 ⟨e9, r9, rfl, zr9⟩
    have mr9 := j_zy zr9
    obtain rfl : H1 = h9 := e9.symm
    conv => whnf
    refine ⟨fun c10 => ?_, fun c10 => ?_⟩
    · have c10 : ¬ (r9).toInt = 0 := c10
      have OK : (0 ≤ a.toInt ∧ a.toInt < ((z_d H1 m P G R Q).1 0).toInt) ∧ (0 ≤ b.toInt ∧ b.toInt < ((z_d H1 m P G R Q).1 1).toInt) := ⟨⟨by omega, show a.toInt < (j_it H1 G 2).toInt by omega⟩, by omega, show b.toInt < (j_it H1 R 2).toInt by omega⟩
      conv => whnf
      refine ⟨_, rfl, w1.km, fun o11 eo => ?_⟩
      obtain rfl : o11 = some R := eo.symm.trans w1.eR
      conv => whnf
      refine ⟨w1.lR.1, rfl, _, _, _, _, _, _, c_AL_get (h := H1) w1.lR j_Sc.rf j_sf_ok (by omega) (by omega), ⟨Nat.le_of_ble_eq_true rfl, Nat.le_of_ble_eq_true rfl, by (try dsimp only); omega, by (try dsimp only); omega⟩, fun _ _ z => False.elim z, ?_⟩
      rintro v9 h9 ⟨e9, g12, rfl, kg12, xg12⟩
      obtain rfl : H1 = h9 := e9.symm
      have feg12 := w1.aR.get (by omega) (by omega) xg12
      have zg12 := z_ml_get xg12
      have rg12 : ρ g12 = 2000 + b.toNatClampNeg := by rw [← zg12]; exact (w1.r (by rw [j_clamp (by omega)]; omega)).2.1
      conv => whnf
      refine ⟨Or.inr ⟨_, rfl, kg12⟩, ?_⟩
      conv => whnf
      refine ⟨_, rfl, kg12, fun x13 ex13 => ?_⟩
      have r6 : (z_d H1 m P G R Q).2.2.2.1 b.toNatClampNeg 6 = if x13.toInt = 0 then Int32.ofInt 1 else Int32.ofInt 0 := by
        rw [← ex13, ← zg12]
        rfl
      conv => whnf
      refine ⟨fun c14 => ?_, fun c14 => ?_⟩
      · have c14 : (x13).toInt = 0 := c14
        conv => whnf
        refine ⟨w1.km, rfl, _, _, _, _, _, _, c_Mo_widthx w1 (V.eq E1) ⟨by omega, by omega⟩, ⟨Nat.le_of_ble_eq_true rfl, Nat.le_of_ble_eq_true rfl, by (try dsimp only); omega, by (try dsimp only); omega⟩, fun _ _ z => False.elim z, ?_⟩
        rintro v9 H16 ⟨⟨st17, tH16⟩, rfl⟩
        have E16 := z_mfd w1 st17
        have zG18 := congrArg Int32.toInt (st17.sz w1.lG.1)
        have zR18 := congrArg Int32.toInt (st17.sz w1.lR.1)
        have zQ18 := congrArg Int32.toInt (st17.sz w1.lQ.1)
        have fe18_g12 := st17.rA kg12 feg12
        have k18_g12 := st17.kd kg12
        have w18 := w1.f st17
        have f18_0 := f1_0.tr st17
        conv => whnf
        refine ⟨Or.inr rfl, ?_⟩
        conv => whnf
        refine ⟨_, rfl, k18_g12, ?_⟩
        show j_go _ _ _ _ _ _ _ _ _ _ (j_up H16 g12 6 (j_i (Int32.ofInt (1)))) _ _
        have v16 : j_it H16 g12 6 = Int32.ofInt 0 := by
          rw [(st17.ob kg12 (Or.inr rfl) (by omega) 6).1, ex13]
          exact Int32.toInt_inj.mp (c14.trans (by decide))
        obtain ⟨H19, eH19⟩ : ∃ q, q = j_up H16 g12 6 (j_i (Int32.ofInt (1))) := ⟨_, rfl⟩
        rw [← eH19]
        have w19 : j_MX ρ H19 m P G R Q := by
          rw [eH19]
          show j_MX ρ (j_wi H16 (j_u (j_it H16) g12 6 (Int32.ofInt 1))) m P G R Q
          exact w18.wr (it := j_u (j_it H16) g12 6 (Int32.ofInt 1)) (fun q f hq hn => by rw [j_uq, if_neg (fun y => hn ⟨by rw [y.1]; exact k18_g12, by omega⟩)])
        have lk16 : (b.toNatClampNeg : Int) < (j_it H16 R 2).toInt := by rw [j_clamp (by omega)]; omega
        have zg16 : z_ml H16 R b.toNatClampNeg = g12 := (z_ml_f st17 w1.lR (by rw [j_clamp (by omega)]; omega)).trans zg12
        have E19 : z_eq (z_d H19 m P G R Q) (n_withdraw (z_d H1 m P G R Q) b) := by
          rw [eH19]
          exact (z_wdr w18 lk16 zg16).tr (n_withdraw_c E16)
        have tH19 : j_it H19 m 0 = j_it H16 m 0 := by rw [eH19]; exact j_upk (show 0 ≠ 6 by decide)
        have zG19 : (j_it H19 G 2).toInt = (j_it H16 G 2).toInt := by rw [eH19, j_upk (show 2 ≠ 6 by decide)]
        have zR19 : (j_it H19 R 2).toInt = (j_it H16 R 2).toInt := by rw [eH19, j_upk (show 2 ≠ 6 by decide)]
        have zQ19 : (j_it H19 Q 2).toInt = (j_it H16 Q 2).toInt := by rw [eH19, j_upk (show 2 ≠ 6 by decide)]
        have k19_g12 : j_kd H19 g12 = some (.inl 11) := by rw [eH19]; exact k18_g12
        conv => whnf
        refine ⟨w19.km, rfl, _, _, _, _, _, _, c_Mo_widthx w19 ((z_V.withdraw (V.eq E1)).eq E19) ⟨by omega, by omega⟩, ⟨Nat.le_of_ble_eq_true rfl, Nat.le_of_ble_eq_true rfl, by (try dsimp only); omega, by (try dsimp only); omega⟩, fun _ _ z => False.elim z, ?_⟩
        rintro v9 H21 ⟨⟨st22, tH21⟩, rfl⟩
        have zG23 := congrArg Int32.toInt (st22.sz w19.lG.1)
        have zR23 := congrArg Int32.toInt (st22.sz w19.lR.1)
        have zQ23 := congrArg Int32.toInt (st22.sz w19.lQ.1)
        have k23_g12 := st22.kd k19_g12
        have w23 := w19.f st22
        conv => whnf
        refine ⟨Or.inl rfl, ?_⟩
        conv => whnf
        refine ⟨_, rfl, k23_g12, ?_⟩
        show j_go _ _ _ _ _ _ _ _ _ _ (j_up H21 g12 6 (j_i (Int32.ofInt (0)))) _ _
        have st24 : j_Mf ρ m H16 (j_up H21 g12 6 (j_i (Int32.ofInt (0)))) := by
          rw [eH19] at st22
          exact j_Mf.back w18.km st22 k18_g12 (by decide) v16
        have tH24 : j_it (j_up H21 g12 6 (j_i (Int32.ofInt (0)))) m 0 = Int32.ofInt 0 := (j_upk (show 0 ≠ 6 by decide)).trans (tH21.trans (tH19.trans (tH16.trans tH1)))
        generalize j_up H21 g12 6 (j_i (Int32.ofInt (0))) = H24 at st24 tH24 ⊢
        have f24_0 := f18_0.tr st24
        conv => whnf
        exact ⟨trivial, ⟨Nat.le_of_ble_eq_true rfl, Nat.le_of_ble_eq_true rfl⟩, z_MQ.ok ⟨ρ, w.f f24_0⟩ (f24_0.mg w) tH24 (QP.trans ((j_cqp OK).trans (j_cqp (by rw [r6, if_pos c14]; decide)))) (z_mfd w f24_0) (by
          rw [z_lO_c E19 w19.b.2.1.1, z_eO_c E19 w19.b.2.1.1, z_lO_wd (by omega), z_eO_wd (by omega)]
          exact z_wd_c E1 w1.b.2.1.1)⟩
      · have c14 : ¬ (x13).toInt = 0 := c14
        have q25 : (Int32.ofInt (2)).toInt = 2 := by decide
        conv => whnf
        refine ⟨w1.km, rfl, _, _, _, _, _, _, c_Mo_refusex w1.km, ⟨Nat.le_of_ble_eq_true rfl, Nat.le_of_ble_eq_true rfl, by (try dsimp only); omega, by (try dsimp only); omega⟩, fun _ _ z => False.elim z, ?_⟩
        rintro v9 H27 ⟨rfl, eH27⟩
        have st28 : j_Mf ρ m H1 H27 := by rw [eH27]; exact j_Mf.fi w1.km (by decide)
        have tH27 : j_it H27 m 0 = Int32.ofInt 2 := by rw [eH27]; exact j_upi
        have zG29 := congrArg Int32.toInt (st28.sz w1.lG.1)
        have zR29 := congrArg Int32.toInt (st28.sz w1.lR.1)
        have zQ29 := congrArg Int32.toInt (st28.sz w1.lQ.1)
        have fe29_g12 := st28.rA kg12 feg12
        have k29_g12 := st28.kd kg12
        have w29 := w1.f st28
        have f29_0 := f1_0.tr st28
        conv => whnf
        exact ⟨trivial, ⟨Nat.le_of_ble_eq_true rfl, Nat.le_of_ble_eq_true rfl⟩, z_MQ.no w f29_0 tH27 (QP.trans ((j_cqp OK).trans (j_cqn (fun z => z (by rw [r6, if_neg c14]; decide))))) (by decide)⟩
    · have c10 : ¬ ¬ (r9).toInt = 0 := c10
      have q30 : (Int32.ofInt (1)).toInt = 1 := by decide
      conv => whnf
      refine ⟨w1.km, rfl, _, _, _, _, _, _, c_Mo_refusex w1.km, ⟨Nat.le_of_ble_eq_true rfl, Nat.le_of_ble_eq_true rfl, by (try dsimp only); omega, by (try dsimp only); omega⟩, fun _ _ z => False.elim z, ?_⟩
      rintro v9 H32 ⟨rfl, eH32⟩
      have st33 : j_Mf ρ m H1 H32 := by rw [eH32]; exact j_Mf.fi w1.km (by decide)
      have tH32 : j_it H32 m 0 = Int32.ofInt 1 := by rw [eH32]; exact j_upi
      have zG34 := congrArg Int32.toInt (st33.sz w1.lG.1)
      have zR34 := congrArg Int32.toInt (st33.sz w1.lR.1)
      have zQ34 := congrArg Int32.toInt (st33.sz w1.lQ.1)
      have w34 := w1.f st33
      have f34_0 := f1_0.tr st33
      conv => whnf
      exact ⟨trivial, ⟨Nat.le_of_ble_eq_true rfl, Nat.le_of_ble_eq_true rfl⟩, z_MQ.no w f34_0 tH32 (QP.trans (j_cqn (fun z => by have z1 : b.toInt < (j_it H1 R 2).toInt := z.2.2; have z0 := z.2.1; omega))) (by decide)⟩
