/-! the model's narrowed spans: word for word -/
set_option maxHeartbeats 4000000 in
set_option maxRecDepth 20000 in
theorem c_Mo_narrowedNowx {ρ : Nat → Nat} {h : j_H} {m P G R Q : Nat} {s : Nat} {Z : j_Z} {a b : Int32} (w : j_MX ρ h m P G R Q) (B : z_B1 (z_d h m P G R Q)) (ks : j_kd h s = some (.inr 0)) (ns : (j_ln h s : Int) = 2 * (j_it h R 2).toInt) (ha : 0 ≤ a.toInt ∧ a.toInt < (j_it h G 2).toInt) (e : z_eq (z_d h m P G R Q) Z) (hs : ∀ k : Nat, (k : Int) < (j_it h R 2).toInt → j_it h s (2 * k) = z_er Z k ∧ j_it h s (2 * k + 1) = z_lr Z k) : j_Ct 198 5 113 0 0 [j_r (some m), j_r (some s), j_i a, j_i b] h (fun v h' => h' = h ∧ v = some (j_i (z_nq Z a.toNatClampNeg b))) j_no := by
  refine j_intro km_198 (Nat.le_of_ble_eq_true rfl) ?_
  intro J hJ hF
  have wb := w.b
  have la0 : z_lt (z_d h m P G R Q) 0 a.toNatClampNeg := by
    show (a.toNatClampNeg : Int) < (j_it h G 2).toInt
    rw [j_clamp ha.1]; exact ha.2
  refine hJ [26] 400 _ _ _ _ _ _ ?_
  conv => whnf
  refine ⟨fun c1 => ?_, fun c1 => ?_⟩
  · have c1 : b.toInt = 0 := c1
    conv => whnf
    refine ⟨w.km, rfl, _, _, _, _, _, _, c_Mo_earlyOfx w ks ns (j_clamp ha.1).symm e (fun k hk => (hs k hk).1), ⟨Nat.le_of_ble_eq_true rfl, Nat.le_of_ble_eq_true rfl, Nat.le_of_ble_eq_true rfl, Nat.le_of_ble_eq_true rfl⟩, fun _ _ z => False.elim z, ?_⟩
    rintro v9 h9 ⟨e9, rfl⟩
    obtain rfl : h = h9 := e9.symm
    have L : ∀ (k : Nat) (v4 v5 : Int32), 0 ≤ v5.toInt → v5.toInt ≤ (j_it h G 2).toInt → v4 = z_fX z_mAx (z_eO Z a.toNatClampNeg (Int32.ofInt (-1)) (Int32.ofInt (-1))) (z_up Z a.toNatClampNeg) (fun k => z_eO Z k (Int32.ofInt (-1)) (Int32.ofInt (-1))) v5.toNatClampNeg → (j_it h G 2).toInt - v5.toInt < (k : Int) → J 26 [some (j_r (some m)), some (j_r (some s)), some (j_i a), some (j_i b), some (j_i v4), some (j_i v5), none] [] h 0 0 := by
      intro k
      induction k with
      | zero => intro v4 v5 hn hl hv hm; omega
      | succ k ih =>
        intro v4 v5 hn hl hv hm
        have cl := j_clamp hn
        refine hJ [26] 400 _ _ _ _ _ _ ?_
        conv => whnf
        refine ⟨_, rfl, w.km, fun o8 eo => ?_⟩
        obtain rfl : o8 = some G := eo.symm.trans w.eG
        conv => whnf
        refine ⟨w.lG.1, rfl, _, _, _, _, _, _, c_AL_size (h := h) w.lG j_Sc.rf j_sf_ok, ⟨Nat.le_of_ble_eq_true rfl, Nat.le_of_ble_eq_true rfl, Nat.le_of_ble_eq_true rfl, Nat.le_of_ble_eq_true rfl⟩, fun _ _ z => False.elim z, ?_⟩
        rintro v9 h9 ⟨e9, rfl⟩
        obtain rfl : h = h9 := e9.symm
        conv => whnf
        refine ⟨fun c10 => ?_, fun c10 => ?_⟩
        · have c10 : (j_it h G 2).toInt ≤ v5.toInt := c10
          conv => whnf
          refine ⟨trivial, ⟨Nat.le_of_ble_eq_true rfl, Nat.le_of_ble_eq_true rfl⟩, rfl, congrArg (fun r => some (j_i r)) (hv.trans ?_)⟩
          rw [show v5 = Z.1 0 from (Int32.toInt_inj.mp (show v5.toInt = (j_it h G 2).toInt by omega)).trans (e.1 0 (by decide))]
          exact (if_pos c1).symm
        · have c10 : ¬ (j_it h G 2).toInt ≤ v5.toInt := c10
          have lk : (v5.toNatClampNeg : Int) < (j_it h G 2).toInt := by omega
          have lk0 : z_lt (z_d h m P G R Q) 0 v5.toNatClampNeg := lk
          have cn : (v5 + Int32.ofInt 1).toNatClampNeg = v5.toNatClampNeg + 1 := by
            have e1 := j_inc1 (x := v5) (by omega)
            have := j_clamp (i := v5 + Int32.ofInt 1) (by omega)
            omega
          have t1 := j_inc1 (x := v5) (by omega)
          conv => whnf
          refine ⟨_, rfl, w.km, fun o11 eo => ?_⟩
          obtain rfl : o11 = some G := eo.symm.trans w.eG
          conv => whnf
          refine ⟨w.lG.1, rfl, _, _, _, _, _, _, c_AL_get (h := h) w.lG j_Sc.rf j_sf_ok (by omega) (by omega), ⟨Nat.le_of_ble_eq_true rfl, Nat.le_of_ble_eq_true rfl, Nat.le_of_ble_eq_true rfl, Nat.le_of_ble_eq_true rfl⟩, fun _ _ z => False.elim z, ?_⟩
          rintro v9 h9 ⟨e9, g12, rfl, kg12, xg12⟩
          obtain rfl : h = h9 := e9.symm
          have z12 := z_ml_get xg12
          conv => whnf
          refine ⟨Or.inr ⟨_, rfl, kg12⟩, ?_⟩
          conv => whnf
          refine ⟨_, rfl, kg12, fun x13 ex13 => ?_⟩
          have v13 : (z_d h m P G R Q).2.2.1 v5.toNatClampNeg 0 = x13 := by rw [← ex13, ← z12]; rfl
          conv => whnf
          refine ⟨_, rfl, w.km, fun o14 eo => ?_⟩
          obtain rfl : o14 = some G := eo.symm.trans w.eG
          conv => whnf
          refine ⟨w.lG.1, rfl, _, _, _, _, _, _, c_AL_get (h := h) w.lG j_Sc.rf j_sf_ok ha.1 ha.2, ⟨Nat.le_of_ble_eq_true rfl, Nat.le_of_ble_eq_true rfl, Nat.le_of_ble_eq_true rfl, Nat.le_of_ble_eq_true rfl⟩, fun _ _ z => False.elim z, ?_⟩
          rintro v9 h9 ⟨e9, g15, rfl, kg15, xg15⟩
          obtain rfl : h = h9 := e9.symm
          have z15 := z_ml_get xg15
          conv => whnf
          refine ⟨Or.inr ⟨_, rfl, kg15⟩, ?_⟩
          conv => whnf
          refine ⟨_, rfl, kg15, fun x16 ex16 => ?_⟩
          have v16 : (z_d h m P G R Q).2.2.1 a.toNatClampNeg 0 = x16 := by rw [← ex16, ← z15]; rfl
          have b13 := B.2.1 _ lk0
          have b16 := B.2.1 _ la0
          rw [v13] at b13
          rw [v16] at b16
          have df : (x13 - x16).toInt = x13.toInt - x16.toInt := j_subI (by omega) (by omega)
          have pe : z_up Z a.toNatClampNeg v5.toNatClampNeg = decide (x16.toInt < x13.toInt) := by
            unfold z_up
            rw [← e.2.2.1 _ 0 lk0 (by decide), ← e.2.2.1 _ 0 la0 (by decide), v13, v16]
          have nx0 : (z_up Z a.toNatClampNeg v5.toNatClampNeg = false) → J 26 [some (j_r (some m)), some (j_r (some s)), some (j_i a), some (j_i b), some (j_i v4), some (j_i (v5 + Int32.ofInt 1)), none] [] h 0 0 := fun q => ih v4 (v5 + Int32.ofInt 1) (by omega) (by omega) (by
            rw [cn]
            exact hv.trans (show _ = z_fX z_mAx (z_eO Z a.toNatClampNeg (Int32.ofInt (-1)) (Int32.ofInt (-1))) (z_up Z a.toNatClampNeg) (fun k => z_eO Z k (Int32.ofInt (-1)) (Int32.ofInt (-1))) (v5.toNatClampNeg + 1) from (if_neg (by rw [q]; decide)).symm)) (by omega)
          have nx1 : (z_up Z a.toNatClampNeg v5.toNatClampNeg = true) → J 26 [some (j_r (some m)), some (j_r (some s)), some (j_i a), some (j_i b), some (j_i (z_mAx v4 (z_eO Z v5.toNatClampNeg (Int32.ofInt (-1)) (Int32.ofInt (-1))))), some (j_i (v5 + Int32.ofInt 1)), none] [] h 0 0 := fun q => ih _ (v5 + Int32.ofInt 1) (by omega) (by omega) (by
            rw [cn, hv]
            exact (show _ = z_fX z_mAx (z_eO Z a.toNatClampNeg (Int32.ofInt (-1)) (Int32.ofInt (-1))) (z_up Z a.toNatClampNeg) (fun k => z_eO Z k (Int32.ofInt (-1)) (Int32.ofInt (-1))) (v5.toNatClampNeg + 1) from (if_pos q).symm)) (by omega)
          clear ih
          conv => whnf
          refine ⟨fun c17 => ?_, fun c17 => ?_⟩
          · conv => whnf
            refine ⟨fun c18 => ?_, fun c18 => ?_⟩
            · have c18 : ¬ b.toInt = 0 := c18
              exact absurd c1 c18
            · conv => whnf
              refine ⟨fun c20 => ?_, fun c20 => ?_⟩
              · have c20 : (x13 - x16).toInt ≤ 0 := c20
                exact j_use hF (nx0 (by rw [pe]; exact decide_eq_false (by omega))) (And.intro rfl (And.intro rfl (And.intro rfl (And.intro rfl (And.intro rfl (And.intro rfl trivial))))))
              · have c20 : ¬ (x13 - x16).toInt ≤ 0 := c20
                conv => whnf
                refine ⟨w.km, rfl, _, _, _, _, _, _, c_Mo_earlyOfx w ks ns cl.symm e (fun k hk => (hs k hk).1), ⟨Nat.le_of_ble_eq_true rfl, Nat.le_of_ble_eq_true rfl, Nat.le_of_ble_eq_true rfl, Nat.le_of_ble_eq_true rfl⟩, fun _ _ z => False.elim z, ?_⟩
                rintro v9 h9 ⟨e9, rfl⟩
                obtain rfl : h = h9 := e9.symm
                conv => whnf
                refine ⟨⟨Nat.le_of_ble_eq_true rfl, Nat.le_of_ble_eq_true rfl, Nat.le_of_ble_eq_true rfl, Nat.le_of_ble_eq_true rfl⟩, ?_⟩
                exact j_use hF (nx1 (by rw [pe]; exact decide_eq_true (by omega))) (And.intro rfl (And.intro rfl (And.intro rfl (And.intro rfl (And.intro rfl (And.intro rfl trivial))))))
          · have c17 : ¬ b.toInt = 0 := c17
            exact absurd c1 c17
    have q83 : (Int32.ofInt (0)).toInt = 0 := by decide
    exact j_use hF (L 100 _ (Int32.ofInt 0) (by omega) (by omega) (by rw [show (Int32.ofInt 0).toNatClampNeg = 0 by decide]; rfl) (by omega)) (And.intro rfl (And.intro rfl (And.intro rfl (And.intro rfl (And.intro rfl (And.intro rfl trivial))))))
  · have c1 : ¬ b.toInt = 0 := c1
    conv => whnf
    refine ⟨w.km, rfl, _, _, _, _, _, _, c_Mo_lateOfx w ks ns (j_clamp ha.1).symm e (fun k hk => (hs k hk).2), ⟨Nat.le_of_ble_eq_true rfl, Nat.le_of_ble_eq_true rfl, Nat.le_of_ble_eq_true rfl, Nat.le_of_ble_eq_true rfl⟩, fun _ _ z => False.elim z, ?_⟩
    rintro v9 h9 ⟨e9, rfl⟩
    obtain rfl : h = h9 := e9.symm
    have L : ∀ (k : Nat) (v4 v5 : Int32), 0 ≤ v5.toInt → v5.toInt ≤ (j_it h G 2).toInt → v4 = z_fX z_mIn (z_lO Z a.toNatClampNeg (Int32.ofInt (-1)) (Int32.ofInt (-1))) (z_dw Z a.toNatClampNeg) (fun k => z_lO Z k (Int32.ofInt (-1)) (Int32.ofInt (-1))) v5.toNatClampNeg → (j_it h G 2).toInt - v5.toInt < (k : Int) → J 26 [some (j_r (some m)), some (j_r (some s)), some (j_i a), some (j_i b), some (j_i v4), some (j_i v5), none] [] h 0 0 := by
      intro k
      induction k with
      | zero => intro v4 v5 hn hl hv hm; omega
      | succ k ih =>
        intro v4 v5 hn hl hv hm
        have cl := j_clamp hn
        refine hJ [26] 400 _ _ _ _ _ _ ?_
        conv => whnf
        refine ⟨_, rfl, w.km, fun o8 eo => ?_⟩
        obtain rfl : o8 = some G := eo.symm.trans w.eG
        conv => whnf
        refine ⟨w.lG.1, rfl, _, _, _, _, _, _, c_AL_size (h := h) w.lG j_Sc.rf j_sf_ok, ⟨Nat.le_of_ble_eq_true rfl, Nat.le_of_ble_eq_true rfl, Nat.le_of_ble_eq_true rfl, Nat.le_of_ble_eq_true rfl⟩, fun _ _ z => False.elim z, ?_⟩
        rintro v9 h9 ⟨e9, rfl⟩
        obtain rfl : h = h9 := e9.symm
        conv => whnf
        refine ⟨fun c10 => ?_, fun c10 => ?_⟩
        · have c10 : (j_it h G 2).toInt ≤ v5.toInt := c10
          conv => whnf
          refine ⟨trivial, ⟨Nat.le_of_ble_eq_true rfl, Nat.le_of_ble_eq_true rfl⟩, rfl, congrArg (fun r => some (j_i r)) (hv.trans ?_)⟩
          rw [show v5 = Z.1 0 from (Int32.toInt_inj.mp (show v5.toInt = (j_it h G 2).toInt by omega)).trans (e.1 0 (by decide))]
          exact (if_neg c1).symm
        · have c10 : ¬ (j_it h G 2).toInt ≤ v5.toInt := c10
          have lk : (v5.toNatClampNeg : Int) < (j_it h G 2).toInt := by omega
          have lk0 : z_lt (z_d h m P G R Q) 0 v5.toNatClampNeg := lk
          have cn : (v5 + Int32.ofInt 1).toNatClampNeg = v5.toNatClampNeg + 1 := by
            have e1 := j_inc1 (x := v5) (by omega)
            have := j_clamp (i := v5 + Int32.ofInt 1) (by omega)
            omega
          have t1 := j_inc1 (x := v5) (by omega)
          conv => whnf
          refine ⟨_, rfl, w.km, fun o11 eo => ?_⟩
          obtain rfl : o11 = some G := eo.symm.trans w.eG
          conv => whnf
          refine ⟨w.lG.1, rfl, _, _, _, _, _, _, c_AL_get (h := h) w.lG j_Sc.rf j_sf_ok (by omega) (by omega), ⟨Nat.le_of_ble_eq_true rfl, Nat.le_of_ble_eq_true rfl, Nat.le_of_ble_eq_true rfl, Nat.le_of_ble_eq_true rfl⟩, fun _ _ z => False.elim z, ?_⟩
          rintro v9 h9 ⟨e9, g12, rfl, kg12, xg12⟩
          obtain rfl : h = h9 := e9.symm
          have z12 := z_ml_get xg12
          conv => whnf
          refine ⟨Or.inr ⟨_, rfl, kg12⟩, ?_⟩
          conv => whnf
          refine ⟨_, rfl, kg12, fun x13 ex13 => ?_⟩
          have v13 : (z_d h m P G R Q).2.2.1 v5.toNatClampNeg 0 = x13 := by rw [← ex13, ← z12]; rfl
          conv => whnf
          refine ⟨_, rfl, w.km, fun o14 eo => ?_⟩
          obtain rfl : o14 = some G := eo.symm.trans w.eG
          conv => whnf
          refine ⟨w.lG.1, rfl, _, _, _, _, _, _, c_AL_get (h := h) w.lG j_Sc.rf j_sf_ok ha.1 ha.2, ⟨Nat.le_of_ble_eq_true rfl, Nat.le_of_ble_eq_true rfl, Nat.le_of_ble_eq_true rfl, Nat.le_of_ble_eq_true rfl⟩, fun _ _ z => False.elim z, ?_⟩
          rintro v9 h9 ⟨e9, g15, rfl, kg15, xg15⟩
          obtain rfl : h = h9 := e9.symm
          have z15 := z_ml_get xg15
          conv => whnf
          refine ⟨Or.inr ⟨_, rfl, kg15⟩, ?_⟩
          conv => whnf
          refine ⟨_, rfl, kg15, fun x16 ex16 => ?_⟩
          have v16 : (z_d h m P G R Q).2.2.1 a.toNatClampNeg 0 = x16 := by rw [← ex16, ← z15]; rfl
          have b13 := B.2.1 _ lk0
          have b16 := B.2.1 _ la0
          rw [v13] at b13
          rw [v16] at b16
          have df : (x13 - x16).toInt = x13.toInt - x16.toInt := j_subI (by omega) (by omega)
          have pe : z_dw Z a.toNatClampNeg v5.toNatClampNeg = decide (x13.toInt < x16.toInt) := by
            unfold z_dw
            rw [← e.2.2.1 _ 0 lk0 (by decide), ← e.2.2.1 _ 0 la0 (by decide), v13, v16]
          have nx0 : (z_dw Z a.toNatClampNeg v5.toNatClampNeg = false) → J 26 [some (j_r (some m)), some (j_r (some s)), some (j_i a), some (j_i b), some (j_i v4), some (j_i (v5 + Int32.ofInt 1)), none] [] h 0 0 := fun q => ih v4 (v5 + Int32.ofInt 1) (by omega) (by omega) (by
            rw [cn]
            exact hv.trans (show _ = z_fX z_mIn (z_lO Z a.toNatClampNeg (Int32.ofInt (-1)) (Int32.ofInt (-1))) (z_dw Z a.toNatClampNeg) (fun k => z_lO Z k (Int32.ofInt (-1)) (Int32.ofInt (-1))) (v5.toNatClampNeg + 1) from (if_neg (by rw [q]; decide)).symm)) (by omega)
          have nx1 : (z_dw Z a.toNatClampNeg v5.toNatClampNeg = true) → J 26 [some (j_r (some m)), some (j_r (some s)), some (j_i a), some (j_i b), some (j_i (z_mIn v4 (z_lO Z v5.toNatClampNeg (Int32.ofInt (-1)) (Int32.ofInt (-1))))), some (j_i (v5 + Int32.ofInt 1)), none] [] h 0 0 := fun q => ih _ (v5 + Int32.ofInt 1) (by omega) (by omega) (by
            rw [cn, hv]
            exact (show _ = z_fX z_mIn (z_lO Z a.toNatClampNeg (Int32.ofInt (-1)) (Int32.ofInt (-1))) (z_dw Z a.toNatClampNeg) (fun k => z_lO Z k (Int32.ofInt (-1)) (Int32.ofInt (-1))) (v5.toNatClampNeg + 1) from (if_pos q).symm)) (by omega)
          clear ih
          conv => whnf
          refine ⟨fun c17 => ?_, fun c17 => ?_⟩
          · have c17 : b.toInt = 0 := c17
            exact absurd c17 c1
          · conv => whnf
            refine ⟨fun c25 => ?_, fun c25 => ?_⟩
            · have c25 : 0 ≤ (x13 - x16).toInt := c25
              conv => whnf
              refine ⟨fun c26 => ?_, fun c26 => ?_⟩
              · exact j_use hF (nx0 (by rw [pe]; exact decide_eq_false (by omega))) (And.intro rfl (And.intro rfl (And.intro rfl (And.intro rfl (And.intro rfl (And.intro rfl trivial))))))
              · have c26 : ¬ ¬ b.toInt = 0 := c26
                exact absurd c1 c26
            · have c25 : ¬ 0 ≤ (x13 - x16).toInt := c25
              conv => whnf
              refine ⟨w.km, rfl, _, _, _, _, _, _, c_Mo_lateOfx w ks ns cl.symm e (fun k hk => (hs k hk).2), ⟨Nat.le_of_ble_eq_true rfl, Nat.le_of_ble_eq_true rfl, Nat.le_of_ble_eq_true rfl, Nat.le_of_ble_eq_true rfl⟩, fun _ _ z => False.elim z, ?_⟩
              rintro v9 h9 ⟨e9, rfl⟩
              obtain rfl : h = h9 := e9.symm
              conv => whnf
              refine ⟨⟨Nat.le_of_ble_eq_true rfl, Nat.le_of_ble_eq_true rfl, Nat.le_of_ble_eq_true rfl, Nat.le_of_ble_eq_true rfl⟩, ?_⟩
              conv => whnf
              refine ⟨fun c26 => ?_, fun c26 => ?_⟩
              · exact j_use hF (nx1 (by rw [pe]; exact decide_eq_true (by omega))) (And.intro rfl (And.intro rfl (And.intro rfl (And.intro rfl (And.intro rfl (And.intro rfl trivial))))))
              · have c26 : ¬ ¬ b.toInt = 0 := c26
                exact absurd c1 c26
    have q83 : (Int32.ofInt (0)).toInt = 0 := by decide
    exact j_use hF (L 100 _ (Int32.ofInt 0) (by omega) (by omega) (by rw [show (Int32.ofInt 0).toNatClampNeg = 0 by decide]; rfl) (by omega)) (And.intro rfl (And.intro rfl (And.intro rfl (And.intro rfl (And.intro rfl (And.intro rfl trivial))))))
