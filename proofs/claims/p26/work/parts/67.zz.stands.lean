/-! the model: prints that stand, word for word -/
theorem z_bf : z_b false = Int32.ofInt 0 := rfl
theorem z_bt : z_b true = Int32.ofInt 1 := rfl
theorem z_b0 {b : Bool} : (z_b b).toInt = 0 ↔ b = false := by
  cases b
  · exact ⟨fun _ => rfl, fun _ => by decide⟩
  · exact ⟨fun z => absurd z (by decide), fun z => absurd z (by decide)⟩
theorem z_bn {b : Bool} (z : ¬ (z_b b).toInt = 0) : b = true := by
  cases b
  · exact absurd (by decide) z
  · rfl
theorem z_stf {z : j_Z} {k : Nat} (e : (z.2.2.2.1 (z.2.2.2.2 k 0).toNatClampNeg 6).toInt = 0) : z_st z k = false := by
  rw [z_st_e]
  unfold z_one
  rw [decide_eq_false (fun q => q e), Bool.false_and, Bool.false_and]
theorem z_stg {z : j_Z} {k : Nat} (e : ¬ (z.2.2.2.2 k 1).toInt = (z.1 (j_pf (z.2.2.2.1 (z.2.2.2.2 k 0).toNatClampNeg 1))).toInt) : z_st z k = false := by
  rw [z_st_e]
  unfold z_one
  rw [decide_eq_false e, Bool.and_false, Bool.false_and]
theorem z_stt {z : j_Z} {k : Nat} (e : ¬ (z.2.2.2.1 (z.2.2.2.2 k 0).toNatClampNeg 6).toInt = 0) (g : (z.2.2.2.2 k 1).toInt = (z.1 (j_pf (z.2.2.2.1 (z.2.2.2.2 k 0).toNatClampNeg 1))).toInt) : z_st z k = if (z.2.2.2.2 k 2).toInt < 0 then true else z_tb z k (z.2.2.2.2 k 2).toNatClampNeg := by
  rw [z_st_e]
  unfold z_one
  rw [decide_eq_true e, decide_eq_true g, Bool.true_and, Bool.true_and]
set_option maxHeartbeats 4000000 in
set_option maxRecDepth 20000 in
theorem c_Mo_stands_nx {ρ : Nat → Nat} {h : j_H} {m P G R Q : Nat} (w : j_MX ρ h m P G R Q) : ∀ (n : Nat) {a : Int32} (ha : 0 ≤ a.toInt ∧ a.toInt < (j_it h Q 2).toInt), a.toInt < (n : Int) → j_Ct 217 (4 + n) (300 + 40 * n) 0 0 [j_r (some m), j_i a] h (fun v h' => h' = h ∧ v = some (j_i (z_b (z_st (z_d h m P G R Q) a.toNatClampNeg)))) j_no := by
  have wb := w.b
  intro n
  induction n with
  | zero => intro a ha hn; omega
  | succ n ih =>
    intro a ha hn
    refine j_intro km_217 (Nat.le_of_ble_eq_true rfl) ?_
    intro J hJ hF
    refine hJ [] 400 _ _ _ _ _ _ ?_
    conv => whnf
    refine ⟨_, rfl, w.km, fun o1 eo => ?_⟩
    obtain rfl : o1 = some Q := eo.symm.trans w.eQ
    conv => whnf
    refine ⟨w.lQ.1, rfl, _, _, _, _, _, _, c_AL_get (h := h) w.lQ j_Sc.rf j_sf_ok (by omega) (by omega), ⟨by (try dsimp only); omega, Nat.le_trans (m := 200) (Nat.le_of_ble_eq_true rfl) (by (try dsimp only); omega), Nat.le_of_ble_eq_true rfl, Nat.le_of_ble_eq_true rfl⟩, fun _ _ z => False.elim z, ?_⟩
    rintro v9 h9 ⟨e9, g2, rfl, kg2, xg2⟩
    obtain rfl : h = h9 := e9.symm
    have feg2 := w.aQ.get (by omega) (by omega) xg2
    have ng2 : j_ln h g2 = 3 := feg2.2.1
    have zg2 := z_ml_get xg2
    have cc0 : (Int32.ofInt 0).toNatClampNeg = 0 := by decide
    have cc1 : (Int32.ofInt 1).toNatClampNeg = 1 := by decide
    have cc2 : (Int32.ofInt 2).toNatClampNeg = 2 := by decide
    conv => whnf
    refine ⟨Or.inr ⟨_, rfl, kg2⟩, ?_⟩
    conv => whnf
    refine ⟨_, rfl, w.km, fun o3 eo => ?_⟩
    obtain rfl : o3 = some R := eo.symm.trans w.eR
    have q4 : (Int32.ofInt (0)).toInt = 0 := by decide
    conv => whnf
    refine ⟨_, _, rfl, kg2, rfl, j_vp (by omega) (by omega), fun x5 ex5 => ?_⟩
    have p0 : (z_d h m P G R Q).2.2.2.2 a.toNatClampNeg 0 = x5 := by
      show j_it h (z_ml h Q a.toNatClampNeg) 0 = x5
      rw [zg2]
      rw [cc0] at ex5
      exact ex5
    have hx5 : 0 ≤ x5.toInt ∧ x5.toInt < (j_it h R 2).toInt := by rw [← ex5]; exact ⟨feg2.2.2.1, feg2.2.2.2.1⟩
    conv => whnf
    refine ⟨w.lR.1, rfl, _, _, _, _, _, _, c_AL_get (h := h) w.lR j_Sc.rf j_sf_ok (by omega) (by omega), ⟨by (try dsimp only); omega, Nat.le_trans (m := 200) (Nat.le_of_ble_eq_true rfl) (by (try dsimp only); omega), Nat.le_of_ble_eq_true rfl, Nat.le_of_ble_eq_true rfl⟩, fun _ _ z => False.elim z, ?_⟩
    rintro v9 h9 ⟨e9, g6, rfl, kg6, xg6⟩
    obtain rfl : h = h9 := e9.symm
    have feg6 := w.aR.get (by omega) (by omega) xg6
    have zg6 := z_ml_get xg6
    conv => whnf
    refine ⟨Or.inr ⟨_, rfl, kg6⟩, ?_⟩
    conv => whnf
    refine ⟨_, rfl, kg6, fun x7 ex7 => ?_⟩
    have r6 : (z_d h m P G R Q).2.2.2.1 ((z_d h m P G R Q).2.2.2.2 a.toNatClampNeg 0).toNatClampNeg 6 = if x7.toInt = 0 then Int32.ofInt 1 else Int32.ofInt 0 := by
      rw [p0, ← ex7, ← zg6]
      rfl
    have k1 : (Int32.ofInt 1).toInt = 1 := by decide
    have k0 : (Int32.ofInt 0).toInt = 0 := by decide
    conv => whnf
    refine ⟨fun c8 => ?_, fun c8 => ?_⟩
    · have c8 : ¬ (x7).toInt = 0 := c8
      conv => whnf
      refine ⟨Or.inl rfl, ⟨Nat.le_of_ble_eq_true rfl, Nat.le_of_ble_eq_true rfl⟩, rfl, congrArg (fun r => some (j_i r)) (show Int32.ofInt 0 = _ from ?_)⟩
      rw [z_stf (by rw [r6, if_neg c8, k0]), z_bf]
    · have c8 : ¬ ¬ (x7).toInt = 0 := c8
      conv => whnf
      refine ⟨_, rfl, w.km, fun o9 eo => ?_⟩
      obtain rfl : o9 = some P := eo.symm.trans w.eP
      conv => whnf
      refine ⟨_, rfl, kg6, fun x10 ex10 => ?_⟩
      have hx10 : 0 ≤ x10.toInt ∧ x10.toInt ≤ 1 := by rw [← ex10]; exact feg6
      have n11 := w.nP
      conv => whnf
      refine ⟨_, _, rfl, w.kP, rfl, j_vp (by omega) (by omega), fun x12 ex12 => ?_⟩
      have p1' : (z_d h m P G R Q).2.2.2.1 ((z_d h m P G R Q).2.2.2.2 a.toNatClampNeg 0).toNatClampNeg 1 = x10 := by
        rw [p0, ← ex10, ← zg6]
        rfl
      have pc : (z_d h m P G R Q).1 (j_pf x10) = x12 := by
        rcases j_pf34' x10 with ⟨q1, q2⟩ | ⟨q1, q2⟩
        · rw [q2, ← ex12, show x10.toNatClampNeg = 0 by have := j_clamp hx10.1; omega]
          rfl
        · rw [q2, ← ex12, show x10.toNatClampNeg = 1 by have := j_clamp hx10.1; omega]
          rfl
      have hx12 : x12.toInt ≠ 0 := j_nzP w ex12 (by omega) (by omega)
      have q13 : (Int32.ofInt (1)).toInt = 1 := by decide
      conv => whnf
      refine ⟨_, _, rfl, kg2, rfl, j_vp (by omega) (by omega), fun x14 ex14 => ?_⟩
      have p1 : (z_d h m P G R Q).2.2.2.2 a.toNatClampNeg 1 = x14 := by
        show j_it h (z_ml h Q a.toNatClampNeg) 1 = x14
        rw [zg2]
        rw [cc1] at ex14
        exact ex14
      have u15 := j_ub x14
      have u16 := j_ub x12
      conv => whnf
      refine ⟨fun c17 => ?_, fun c17 => ?_⟩
      · have c17 : ¬ (x12).toInt = (x14).toInt := c17
        conv => whnf
        refine ⟨Or.inl rfl, ⟨Nat.le_of_ble_eq_true rfl, Nat.le_of_ble_eq_true rfl⟩, rfl, congrArg (fun r => some (j_i r)) (show Int32.ofInt 0 = _ from ?_)⟩
        rw [z_stg (by rw [p1, p1', pc]; exact fun z => c17 z.symm), z_bf]
      · have c17 : ¬ ¬ (x12).toInt = (x14).toInt := c17
        have q18 : (Int32.ofInt (2)).toInt = 2 := by decide
        conv => whnf
        refine ⟨_, _, rfl, kg2, rfl, j_vp (by omega) (by omega), fun x19 ex19 => ?_⟩
        have p2 : (z_d h m P G R Q).2.2.2.2 a.toNatClampNeg 2 = x19 := by
          show j_it h (z_ml h Q a.toNatClampNeg) 2 = x19
          rw [zg2]
          rw [cc2] at ex19
          exact ex19
        have ok : z_st (z_d h m P G R Q) a.toNatClampNeg = if x19.toInt < 0 then true else z_tb (z_d h m P G R Q) a.toNatClampNeg x19.toNatClampNeg := by
          rw [← p2]
          refine z_stt (by rw [r6, if_pos (Classical.not_not.mp c8), k1]; decide) ?_
          rw [p1, p1', pc]
          exact (Classical.not_not.mp c17).symm
        have hx19 : x19.toInt = -1 ∨ (0 ≤ x19.toInt ∧ x19.toInt < (a).toInt) := by have y := feg2.2.2.2.2; rw [j_clamp (by omega)] at y; rw [← ex19]; exact y
        have q20 : (Int32.ofInt (-1)).toInt = -1 := by decide
        have u21 := j_ub x19
        conv => whnf
        refine ⟨fun c22 => ?_, fun c22 => ?_⟩
        · have c22 : (x19).toInt = (Int32.ofInt (-1)).toInt := c22
          conv => whnf
          refine ⟨Or.inr rfl, ⟨Nat.le_of_ble_eq_true rfl, Nat.le_of_ble_eq_true rfl⟩, rfl, congrArg (fun r => some (j_i r)) (show Int32.ofInt 1 = _ from ?_)⟩
          rw [ok, if_pos (by omega), z_bt]
        · have c22 : ¬ (x19).toInt = (Int32.ofInt (-1)).toInt := c22
          have q23 : (Int32.ofInt (2)).toInt = 2 := by decide
          conv => whnf
          refine ⟨_, _, rfl, kg2, rfl, j_vp (by omega) (by omega), fun x24 ex24 => ?_⟩
          have hx24 : x24.toInt = -1 ∨ (0 ≤ x24.toInt ∧ x24.toInt < (a).toInt) := by have y := feg2.2.2.2.2; rw [j_clamp (by omega)] at y; rw [← ex24]; exact y
          have s25 := congrArg Int32.toInt (ex24.symm.trans ex19)
          conv => whnf
          refine ⟨w.km, rfl, _, _, _, _, _, _, ih ⟨by omega, by omega⟩ (by omega), ⟨by (try dsimp only); omega, by show 8 + (4 + 11) + _ ≤ _; (try dsimp only); omega, Nat.le_of_ble_eq_true rfl, Nat.le_of_ble_eq_true rfl⟩, fun _ _ z => False.elim z, ?_⟩
          rintro v9 h9 ⟨e9, rfl⟩
          obtain rfl : h = h9 := e9.symm
          conv => whnf
          have ev : z_st (z_d h m P G R Q) a.toNatClampNeg = z_st (z_d h m P G R Q) x24.toNatClampNeg := by
            rw [ok, if_neg (by omega), show x24 = x19 from Int32.toInt_inj.mp s25]
            exact z_tb_f _ _ (by have := j_clamp (i := x19) (by omega); have := j_clamp ha.1; omega)
          refine ⟨fun c27 => ?_, fun c27 => ?_⟩
          · have c27 : (z_b (z_st (z_d h m P G R Q) x24.toNatClampNeg)).toInt = 0 := c27
            conv => whnf
            refine ⟨Or.inl rfl, ⟨Nat.le_of_ble_eq_true rfl, Nat.le_of_ble_eq_true rfl⟩, rfl, congrArg (fun r => some (j_i r)) (show Int32.ofInt 0 = _ from ?_)⟩
            rw [ev, z_b0.mp c27, z_bf]
          · have c27 : ¬ (z_b (z_st (z_d h m P G R Q) x24.toNatClampNeg)).toInt = 0 := c27
            conv => whnf
            refine ⟨Or.inr rfl, ⟨Nat.le_of_ble_eq_true rfl, Nat.le_of_ble_eq_true rfl⟩, rfl, congrArg (fun r => some (j_i r)) (show Int32.ofInt 1 = _ from ?_)⟩
            rw [ev, z_bn c27, z_bt]
theorem c_Mo_standsx {ρ : Nat → Nat} {h : j_H} {m P G R Q : Nat} {a : Int32} (w : j_MX ρ h m P G R Q) (ha : 0 ≤ a.toInt ∧ a.toInt < (j_it h Q 2).toInt) : j_Ct 217 15 740 0 0 [j_r (some m), j_i a] h (fun v h' => h' = h ∧ v = some (j_i (z_b (z_st (z_d h m P G R Q) a.toNatClampNeg)))) j_no := c_Mo_stands_nx w 11 ha (by have := w.b; omega)
set_option maxHeartbeats 4000000 in
set_option maxRecDepth 20000 in
theorem c_Mo_standingx {ρ : Nat → Nat} {h : j_H} {m P G R Q : Nat}  (w : j_MX ρ h m P G R Q)  : j_Ct 215 16 763 0 0 [j_r (some m)] h (fun v h' => h' = h ∧ v = some (j_i (z_cnt (z_st (z_d h m P G R Q)) (j_it h Q 2).toNatClampNeg))) j_no := by
  refine j_intro km_215 (Nat.le_of_ble_eq_true rfl) ?_
  intro J hJ hF
  have wb := w.b
  refine hJ [4] 400 _ _ _ _ _ _ ?_
  have L4_3 : ∀ (k : Nat) (v1 : Int32) (v2 : Int32), 0 ≤ v2.toInt → v2.toInt ≤ (j_it h Q 2).toInt → v1 = z_cnt (z_st (z_d h m P G R Q)) v2.toNatClampNeg → (2147483647 - v2.toInt) < (k : Int) → J 4 [some (j_r (some m)), some (j_i v1), some (j_i v2)] [] h 0 0 := by
    intro k
    induction k with
    | zero => intro v1 v2 hn hl hv hm; exact absurd hm (by have := j_ub v2; omega)
    | succ k ihB4 =>
      intro v1 v2 hn hl hv hm
      have uv1 := j_ub v1; have lv1 := j_lb v1
      have uv2 := j_ub v2; have lv2 := j_lb v2
      refine hJ [4] 400 _ _ _ _ _ _ ?_
      conv => whnf
      refine ⟨_, rfl, w.km, fun o5 eo => ?_⟩
      obtain rfl : o5 = some Q := eo.symm.trans w.eQ
      conv => whnf
      refine ⟨w.lQ.1, rfl, _, _, _, _, _, _, c_AL_size (h := h) w.lQ j_Sc.rf j_sf_ok, ⟨Nat.le_of_ble_eq_true rfl, Nat.le_of_ble_eq_true rfl, Nat.le_of_ble_eq_true rfl, Nat.le_of_ble_eq_true rfl⟩, fun _ _ z => False.elim z, ?_⟩
      rintro v9 h9 ⟨e9, rfl⟩
      obtain rfl : h = h9 := e9.symm
      have u6 := j_ub v2
      conv => whnf
      refine ⟨fun c7 => ?_, fun c7 => ?_⟩
      · have c7 : ((j_it h Q 2)).toInt ≤ (v2).toInt := c7
        conv => whnf
        exact ⟨trivial, ⟨Nat.le_of_ble_eq_true rfl, Nat.le_of_ble_eq_true rfl⟩, rfl, congrArg (fun r => some (j_i r)) (hv.trans (by rw [show v2 = j_it h Q 2 from Int32.toInt_inj.mp (by omega)]))⟩
      · have c7 : ¬ ((j_it h Q 2)).toInt ≤ (v2).toInt := c7
        conv => whnf
        refine ⟨w.km, rfl, _, _, _, _, _, _, c_Mo_standsx w ⟨by omega, by omega⟩, ⟨Nat.le_of_ble_eq_true rfl, Nat.le_of_ble_eq_true rfl, Nat.le_of_ble_eq_true rfl, Nat.le_of_ble_eq_true rfl⟩, fun _ _ z => False.elim z, ?_⟩
        rintro v9 h9 ⟨e9, rfl⟩
        obtain rfl : h = h9 := e9.symm
        conv => whnf
        have cn : (v2 + Int32.ofInt 1).toNatClampNeg = v2.toNatClampNeg + 1 := by
          have e1 := j_inc1 (x := v2) (by omega)
          have := j_clamp (i := v2 + Int32.ofInt 1) (by omega)
          have := j_clamp hn
          omega
        refine ⟨fun c9 => ?_, fun c9 => ?_⟩
        · have c9 : (z_b (z_st (z_d h m P G R Q) v2.toNatClampNeg)).toInt = 0 := c9
          have t10 : (v2 + Int32.ofInt 1).toInt = v2.toInt + 1 := j_inc1 (by omega)
          exact j_use hF (ihB4 (v1 + Int32.ofInt 0) (v2 + Int32.ofInt 1) (by omega) (by omega) (by
            rw [cn]
            show _ = z_cnt (z_st (z_d h m P G R Q)) v2.toNatClampNeg + _
            rw [if_neg (by rw [z_b0.mp c9]; decide), ← hv]) (by omega)) (And.intro rfl (And.intro rfl (And.intro rfl trivial)))
        · have c9 : ¬ (z_b (z_st (z_d h m P G R Q) v2.toNatClampNeg)).toInt = 0 := c9
          have t11 : (v2 + Int32.ofInt 1).toInt = v2.toInt + 1 := j_inc1 (by omega)
          exact j_use hF (ihB4 (v1 + Int32.ofInt 1) (v2 + Int32.ofInt 1) (by omega) (by omega) (by
            rw [cn]
            show _ = z_cnt (z_st (z_d h m P G R Q)) v2.toNatClampNeg + _
            rw [if_pos (z_bn c9), ← hv]) (by omega)) (And.intro rfl (And.intro rfl (And.intro rfl trivial)))
  have q12 : (Int32.ofInt (0)).toInt = 0 := by decide
  exact j_use hF (L4_3 4294967296 (Int32.ofInt 0) (Int32.ofInt 0) (by omega) (by omega) (by rw [show (Int32.ofInt 0).toNatClampNeg = 0 by decide]; rfl) (by omega)) (And.intro rfl (And.intro rfl (And.intro rfl trivial)))
