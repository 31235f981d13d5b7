/-! the model's spans: word for word -/
theorem z_uia {h : j_H} {b k j : Nat} {x : Int32} : j_it (j_ui h b k x) b j = if j = k then x else j_it h b j := by
  show j_u (j_it h) b k x b j = _
  rw [j_uq]
  by_cases z : j = k
  · rw [if_pos ⟨rfl, z⟩, if_pos z]
  · rw [if_neg (fun y => z y.2), if_neg z]
theorem z_pw1 {z : j_Z} {g k : Nat} {c : Int32} : z_pw z g c (Int32.ofInt (-1)) k = z_says z g c k := by
  unfold z_pw
  rw [decide_eq_true (show ¬ (k : Int) = (Int32.ofInt (-1)).toInt by rw [show (Int32.ofInt (-1)).toInt = -1 by decide]; omega), Bool.true_and]
set_option maxHeartbeats 4000000 in
set_option maxRecDepth 20000 in
theorem c_Mo_earlyOfx {ρ : Nat → Nat} {h : j_H} {m P G R Q : Nat} {s g : Nat} {Z : j_Z} {a : Int32} {b : Int32} (w : j_MX ρ h m P G R Q) (ks : j_kd h s = some (.inr 0)) (ns : (j_ln h s : Int) = 2 * (j_it h R 2).toInt) (hg : a.toInt = (g : Int)) (e : z_eq (z_d h m P G R Q) Z) (hs : ∀ k : Nat, (k : Int) < (j_it h R 2).toInt → j_it h s (2 * k) = z_er Z k) : j_Ct 176 4 88 0 0 [j_r (some m), j_r (some s), j_i a, j_i b] h (fun v h' => h' = h ∧ v = some (j_i (z_eO Z g b (Int32.ofInt (-1))))) j_no := by
  refine j_intro km_176 (Nat.le_of_ble_eq_true rfl) ?_
  intro J hJ hF
  have wb := w.b
  refine hJ [6] 400 _ _ _ _ _ _ ?_
  have L6_3 : ∀ (k : Nat) (v1 : Int32) (v2 : Int32), 0 ≤ v2.toInt → v2.toInt ≤ (j_it h R 2).toInt → v1 = z_fM (z_pw Z g b (Int32.ofInt (-1))) (z_er Z) v2.toNatClampNeg → (2147483647 - v2.toInt) < (k : Int) → J 6 [some (j_r (some m)), some (j_r (some s)), some (j_i a), some (j_i b), some (j_i v1), some (j_i v2)] [] h 0 0 := by
    intro k
    induction k with
    | zero => intro v1 v2 hn hl hv hm; exact absurd hm (by have := j_ub v2; omega)
    | succ k ihB4 =>
      intro v1 v2 hn hl hv hm
      have uv1 := j_ub v1; have lv1 := j_lb v1
      have uv2 := j_ub v2; have lv2 := j_lb v2
      refine hJ [6] 400 _ _ _ _ _ _ ?_
      conv => whnf
      refine ⟨_, rfl, w.km, fun o5 eo => ?_⟩
      obtain rfl : o5 = some R := eo.symm.trans w.eR
      conv => whnf
      refine ⟨w.lR.1, rfl, _, _, _, _, _, _, c_AL_size (h := h) w.lR j_Sc.rf j_sf_ok, ⟨Nat.le_of_ble_eq_true rfl, Nat.le_of_ble_eq_true rfl, Nat.le_of_ble_eq_true rfl, Nat.le_of_ble_eq_true rfl⟩, fun _ _ z => False.elim z, ?_⟩
      rintro v9 h9 ⟨e9, rfl⟩
      obtain rfl : h = h9 := e9.symm
      have u6 := j_ub v2
      conv => whnf
      refine ⟨fun c7 => ?_, fun c7 => ?_⟩
      · have c7 : ((j_it h R 2)).toInt ≤ (v2).toInt := c7
        conv => whnf
        exact ⟨trivial, ⟨Nat.le_of_ble_eq_true rfl, Nat.le_of_ble_eq_true rfl⟩, rfl, congrArg (fun r => some (j_i r)) (hv.trans (by rw [show v2 = Z.1 1 from (Int32.toInt_inj.mp (show v2.toInt = (j_it h R 2).toInt by omega)).trans (e.1 1 (by decide))]; rfl))⟩
      · have c7 : ¬ ((j_it h R 2)).toInt ≤ (v2).toInt := c7
        conv => whnf
        refine ⟨w.km, rfl, _, _, _, _, _, _, c_Mo_countsx w ⟨by omega, by omega⟩ hg, ⟨Nat.le_of_ble_eq_true rfl, Nat.le_of_ble_eq_true rfl, Nat.le_of_ble_eq_true rfl, Nat.le_of_ble_eq_true rfl⟩, fun _ _ z => False.elim z, ?_⟩
        rintro v9 h9 ⟨e9, rfl⟩
        obtain rfl : h = h9 := e9.symm
        conv => whnf
        have lk : (v2.toNatClampNeg : Int) < (j_it h R 2).toInt := by rw [j_clamp hn]; omega
        have pk : z_says (z_d h m P G R Q) g b v2.toNatClampNeg = z_pw Z g b (Int32.ofInt (-1)) v2.toNatClampNeg := (z_says_c e lk).trans z_pw1.symm
        have cn : (v2 + Int32.ofInt 1).toNatClampNeg = v2.toNatClampNeg + 1 := by
          have e1 := j_inc1 (x := v2) (by omega)
          have := j_clamp (i := v2 + Int32.ofInt 1) (by omega)
          have := j_clamp hn
          omega
        rw [pk]
        refine ⟨fun c9 => ?_, fun c9 => ?_⟩
        · have c9 : (z_b (z_pw Z g b (Int32.ofInt (-1)) v2.toNatClampNeg)).toInt = 0 := c9
          have t10 : (v2 + Int32.ofInt 1).toInt = v2.toInt + 1 := j_inc1 (by omega)
          exact j_use hF (ihB4 v1 (v2 + Int32.ofInt 1) (by omega) (by omega) (by
            rw [cn]
            show _ = if z_pw Z g b (Int32.ofInt (-1)) v2.toNatClampNeg = true then z_mAx (z_fM (z_pw Z g b (Int32.ofInt (-1))) (z_er Z) v2.toNatClampNeg) (z_er Z v2.toNatClampNeg) else z_fM (z_pw Z g b (Int32.ofInt (-1))) (z_er Z) v2.toNatClampNeg
            rw [if_neg (by rw [z_b0.mp c9]; decide)]
            exact hv) (by omega)) (And.intro rfl (And.intro rfl (And.intro rfl (And.intro rfl (And.intro rfl (And.intro rfl trivial))))))
        · have c9 : ¬ (z_b (z_pw Z g b (Int32.ofInt (-1)) v2.toNatClampNeg)).toInt = 0 := c9
          conv => whnf
          refine ⟨_, _, rfl, ks, rfl, j_vp (by rw [j_dbl (by omega) (by omega)]; omega) (by rw [j_dbl (by omega) (by omega)]; omega), fun x11 ex11 => ?_⟩
          have vx11 : x11 = z_er Z v2.toNatClampNeg := by
            have i1 : ((Int32.ofInt (2) * v2)).toNatClampNeg = 2 * v2.toNatClampNeg := by
              have e2 := j_dbl (x := v2) (by omega) (by omega)
              have := j_clamp (i := (Int32.ofInt (2) * v2)) (by omega)
              have := j_clamp hn
              omega
            rw [i1] at ex11
            exact ex11.symm.trans (hs _ lk)
          conv => whnf
          refine ⟨⟨Nat.le_of_ble_eq_true rfl, Nat.le_of_ble_eq_true rfl, Nat.le_of_ble_eq_true rfl, Nat.le_of_ble_eq_true rfl⟩, ?_⟩
          have t12 : (v2 + Int32.ofInt 1).toInt = v2.toInt + 1 := j_inc1 (by omega)
          exact j_use hF (ihB4 (z_mAx v1 x11) (v2 + Int32.ofInt 1) (by omega) (by omega) (by
            rw [cn]
            show _ = if z_pw Z g b (Int32.ofInt (-1)) v2.toNatClampNeg = true then z_mAx (z_fM (z_pw Z g b (Int32.ofInt (-1))) (z_er Z) v2.toNatClampNeg) (z_er Z v2.toNatClampNeg) else z_fM (z_pw Z g b (Int32.ofInt (-1))) (z_er Z) v2.toNatClampNeg
            rw [if_pos (z_bn c9), ← hv, ← vx11]) (by omega)) (And.intro rfl (And.intro rfl (And.intro rfl (And.intro rfl (And.intro rfl (And.intro rfl trivial))))))
  have q13 : (Int32.ofInt (0)).toInt = 0 := by decide
  exact j_use hF (L6_3 4294967296 (Int32.ofInt 0) (Int32.ofInt 0) (by omega) (by omega) (by rw [show (Int32.ofInt 0).toNatClampNeg = 0 by decide]; rfl) (by omega)) (And.intro rfl (And.intro rfl (And.intro rfl (And.intro rfl (And.intro rfl (And.intro rfl trivial))))))
set_option maxHeartbeats 4000000 in
set_option maxRecDepth 20000 in
theorem c_Mo_lateOfx {ρ : Nat → Nat} {h : j_H} {m P G R Q : Nat} {s g : Nat} {Z : j_Z} {a : Int32} {b : Int32} (w : j_MX ρ h m P G R Q) (ks : j_kd h s = some (.inr 0)) (ns : (j_ln h s : Int) = 2 * (j_it h R 2).toInt) (hg : a.toInt = (g : Int)) (e : z_eq (z_d h m P G R Q) Z) (hs : ∀ k : Nat, (k : Int) < (j_it h R 2).toInt → j_it h s (2 * k + 1) = z_lr Z k) : j_Ct 191 4 88 0 0 [j_r (some m), j_r (some s), j_i a, j_i b] h (fun v h' => h' = h ∧ v = some (j_i (z_lO Z g b (Int32.ofInt (-1))))) j_no := by
  refine j_intro km_191 (Nat.le_of_ble_eq_true rfl) ?_
  intro J hJ hF
  have wb := w.b
  refine hJ [8] 400 _ _ _ _ _ _ ?_
  have L8_3 : ∀ (k : Nat) (v1 : Int32) (v2 : Int32), 0 ≤ v2.toInt → v2.toInt ≤ (j_it h R 2).toInt → v1 = z_fm (z_pw Z g b (Int32.ofInt (-1))) (z_lr Z) v2.toNatClampNeg → (2147483647 - v2.toInt) < (k : Int) → J 8 [some (j_r (some m)), some (j_r (some s)), some (j_i a), some (j_i b), some (j_i v1), some (j_i v2)] [] h 0 0 := by
    intro k
    induction k with
    | zero => intro v1 v2 hn hl hv hm; exact absurd hm (by have := j_ub v2; omega)
    | succ k ihB4 =>
      intro v1 v2 hn hl hv hm
      have uv1 := j_ub v1; have lv1 := j_lb v1
      have uv2 := j_ub v2; have lv2 := j_lb v2
      refine hJ [8] 400 _ _ _ _ _ _ ?_
      conv => whnf
      refine ⟨_, rfl, w.km, fun o5 eo => ?_⟩
      obtain rfl : o5 = some R := eo.symm.trans w.eR
      conv => whnf
      refine ⟨w.lR.1, rfl, _, _, _, _, _, _, c_AL_size (h := h) w.lR j_Sc.rf j_sf_ok, ⟨Nat.le_of_ble_eq_true rfl, Nat.le_of_ble_eq_true rfl, Nat.le_of_ble_eq_true rfl, Nat.le_of_ble_eq_true rfl⟩, fun _ _ z => False.elim z, ?_⟩
      rintro v9 h9 ⟨e9, rfl⟩
      obtain rfl : h = h9 := e9.symm
      have u6 := j_ub v2
      conv => whnf
      refine ⟨fun c7 => ?_, fun c7 => ?_⟩
      · have c7 : ((j_it h R 2)).toInt ≤ (v2).toInt := c7
        conv => whnf
        exact ⟨trivial, ⟨Nat.le_of_ble_eq_true rfl, Nat.le_of_ble_eq_true rfl⟩, rfl, congrArg (fun r => some (j_i r)) (hv.trans (by rw [show v2 = Z.1 1 from (Int32.toInt_inj.mp (show v2.toInt = (j_it h R 2).toInt by omega)).trans (e.1 1 (by decide))]; rfl))⟩
      · have c7 : ¬ ((j_it h R 2)).toInt ≤ (v2).toInt := c7
        conv => whnf
        refine ⟨w.km, rfl, _, _, _, _, _, _, c_Mo_countsx w ⟨by omega, by omega⟩ hg, ⟨Nat.le_of_ble_eq_true rfl, Nat.le_of_ble_eq_true rfl, Nat.le_of_ble_eq_true rfl, Nat.le_of_ble_eq_true rfl⟩, fun _ _ z => False.elim z, ?_⟩
        rintro v9 h9 ⟨e9, rfl⟩
        obtain rfl : h = h9 := e9.symm
        conv => whnf
        have lk : (v2.toNatClampNeg : Int) < (j_it h R 2).toInt := by rw [j_clamp hn]; omega
        have pk : z_says (z_d h m P G R Q) g b v2.toNatClampNeg = z_pw Z g b (Int32.ofInt (-1)) v2.toNatClampNeg := (z_says_c e lk).trans z_pw1.symm
        have cn : (v2 + Int32.ofInt 1).toNatClampNeg = v2.toNatClampNeg + 1 := by
          have e1 := j_inc1 (x := v2) (by omega)
          have := j_clamp (i := v2 + Int32.ofInt 1) (by omega)
          have := j_clamp hn
          omega
        rw [pk]
        refine ⟨fun c9 => ?_, fun c9 => ?_⟩
        · have c9 : (z_b (z_pw Z g b (Int32.ofInt (-1)) v2.toNatClampNeg)).toInt = 0 := c9
          have t10 : (v2 + Int32.ofInt 1).toInt = v2.toInt + 1 := j_inc1 (by omega)
          exact j_use hF (ihB4 v1 (v2 + Int32.ofInt 1) (by omega) (by omega) (by
            rw [cn]
            show _ = if z_pw Z g b (Int32.ofInt (-1)) v2.toNatClampNeg = true then z_mIn (z_fm (z_pw Z g b (Int32.ofInt (-1))) (z_lr Z) v2.toNatClampNeg) (z_lr Z v2.toNatClampNeg) else z_fm (z_pw Z g b (Int32.ofInt (-1))) (z_lr Z) v2.toNatClampNeg
            rw [if_neg (by rw [z_b0.mp c9]; decide)]
            exact hv) (by omega)) (And.intro rfl (And.intro rfl (And.intro rfl (And.intro rfl (And.intro rfl (And.intro rfl trivial))))))
        · have c9 : ¬ (z_b (z_pw Z g b (Int32.ofInt (-1)) v2.toNatClampNeg)).toInt = 0 := c9
          conv => whnf
          refine ⟨_, _, rfl, ks, rfl, j_vp (by rw [j_dbl1 (by omega) (by omega)]; omega) (by rw [j_dbl1 (by omega) (by omega)]; omega), fun x11 ex11 => ?_⟩
          have vx11 : x11 = z_lr Z v2.toNatClampNeg := by
            have i1 : (((Int32.ofInt (2) * v2) + Int32.ofInt (1))).toNatClampNeg = 2 * v2.toNatClampNeg + 1 := by
              have e2 := j_dbl1 (x := v2) (by omega) (by omega)
              have := j_clamp (i := ((Int32.ofInt (2) * v2) + Int32.ofInt (1))) (by omega)
              have := j_clamp hn
              omega
            rw [i1] at ex11
            exact ex11.symm.trans (hs _ lk)
          conv => whnf
          refine ⟨⟨Nat.le_of_ble_eq_true rfl, Nat.le_of_ble_eq_true rfl, Nat.le_of_ble_eq_true rfl, Nat.le_of_ble_eq_true rfl⟩, ?_⟩
          have t12 : (v2 + Int32.ofInt 1).toInt = v2.toInt + 1 := j_inc1 (by omega)
          exact j_use hF (ihB4 (z_mIn v1 x11) (v2 + Int32.ofInt 1) (by omega) (by omega) (by
            rw [cn]
            show _ = if z_pw Z g b (Int32.ofInt (-1)) v2.toNatClampNeg = true then z_mIn (z_fm (z_pw Z g b (Int32.ofInt (-1))) (z_lr Z) v2.toNatClampNeg) (z_lr Z v2.toNatClampNeg) else z_fm (z_pw Z g b (Int32.ofInt (-1))) (z_lr Z) v2.toNatClampNeg
            rw [if_pos (z_bn c9), ← hv, ← vx11]) (by omega)) (And.intro rfl (And.intro rfl (And.intro rfl (And.intro rfl (And.intro rfl (And.intro rfl trivial))))))
  have q13 : (Int32.ofInt (0)).toInt = 0 := by decide
  exact j_use hF (L8_3 4294967296 ((Int16.ofInt 3000).toInt32) (Int32.ofInt 0) (by omega) (by omega) (by rw [show (Int32.ofInt 0).toNatClampNeg = 0 by decide]; rfl) (by omega)) (And.intro rfl (And.intro rfl (And.intro rfl (And.intro rfl (And.intro rfl (And.intro rfl trivial))))))
set_option maxHeartbeats 4000000 in
set_option maxRecDepth 20000 in
theorem c_Mo_quarrelsx {ρ : Nat → Nat} {h : j_H} {m P G R Q : Nat} {s g : Nat} {Z : j_Z} {a : Int32} {b : Int32} (w : j_MX ρ h m P G R Q) (ks : j_kd h s = some (.inr 0)) (ns : (j_ln h s : Int) = 2 * (j_it h R 2).toInt) (hg : a.toInt = (g : Int)) (e : z_eq (z_d h m P G R Q) Z) (hs : ∀ k : Nat, (k : Int) < (j_it h R 2).toInt → j_it h s (2 * k) = z_er Z k ∧ j_it h s (2 * k + 1) = z_lr Z k) : j_Ct 209 5 113 0 0 [j_r (some m), j_r (some s), j_i a, j_i b] h (fun v h' => h' = h ∧ v = some (j_i (z_b (decide ((z_lO Z g b (Int32.ofInt (-1))).toInt < (z_eO Z g b (Int32.ofInt (-1))).toInt))))) j_no := by
  refine j_intro km_209 (Nat.le_of_ble_eq_true rfl) ?_
  intro J hJ hF
  have wb := w.b
  refine hJ [] 400 _ _ _ _ _ _ ?_
  conv => whnf
  refine ⟨w.km, rfl, _, _, _, _, _, _, c_Mo_earlyOfx w ks (by omega) hg e (fun k hk => (hs k hk).1), ⟨Nat.le_of_ble_eq_true rfl, Nat.le_of_ble_eq_true rfl, Nat.le_of_ble_eq_true rfl, Nat.le_of_ble_eq_true rfl⟩, fun _ _ z => False.elim z, ?_⟩
  rintro v9 h9 ⟨e9, rfl⟩
  obtain rfl : h = h9 := e9.symm
  conv => whnf
  refine ⟨w.km, rfl, _, _, _, _, _, _, c_Mo_lateOfx w ks (by omega) hg e (fun k hk => (hs k hk).2), ⟨Nat.le_of_ble_eq_true rfl, Nat.le_of_ble_eq_true rfl, Nat.le_of_ble_eq_true rfl, Nat.le_of_ble_eq_true rfl⟩, fun _ _ z => False.elim z, ?_⟩
  rintro v9 h9 ⟨e9, rfl⟩
  obtain rfl : h = h9 := e9.symm
  generalize z_lO Z g b (Int32.ofInt (-1)) = r2
  generalize z_eO Z g b (Int32.ofInt (-1)) = r1
  conv => whnf
  refine ⟨fun c5 => ?_, fun c5 => ?_⟩
  · have c5 : (r1).toInt ≤ (r2).toInt := c5
    conv => whnf
    refine ⟨Or.inl rfl, ⟨Nat.le_of_ble_eq_true rfl, Nat.le_of_ble_eq_true rfl⟩, rfl, congrArg (fun r => some (j_i r)) (show Int32.ofInt 0 = _ from ?_)⟩
    rw [decide_eq_false (show ¬ r2.toInt < r1.toInt by omega)]
    rfl
  · have c5 : ¬ (r1).toInt ≤ (r2).toInt := c5
    conv => whnf
    refine ⟨Or.inr rfl, ⟨Nat.le_of_ble_eq_true rfl, Nat.le_of_ble_eq_true rfl⟩, rfl, congrArg (fun r => some (j_i r)) (show Int32.ofInt 1 = _ from ?_)⟩
    rw [decide_eq_true (show r2.toInt < r1.toInt by omega)]
    rfl
