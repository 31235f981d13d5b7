/-! bestSwap: the model -/
theorem z_mul32 {x c : Int32} (h0 : 0 ≤ x.toInt) (h1 : x.toInt ≤ 40) (hc : c.toInt = 32) : (c * x).toInt = 32 * x.toInt := by
  rw [Int32.toInt_mul, hc, Int.bmod_def]
  omega
theorem z_div32 {x c : Int32} (h0 : 0 ≤ x.toInt) (hc : c.toInt = 32) : (x / c).toInt = x.toInt / 32 := by
  rw [t_div h0 (by omega), hc]
theorem z_rem32 {x c : Int32} (h0 : 0 ≤ x.toInt) (hc : c.toInt = 32) : (x - x / c * c).toInt = x.toInt % 32 := by
  have d := z_div32 h0 hc
  have u := j_ub x
  have m : (x / c * c).toInt = x.toInt / 32 * 32 := by
    rw [Int32.toInt_mul, d, hc, Int.bmod_def]
    omega
  rw [j_subI (by omega) (by omega), m]
  omega
/-- the pair p as the model writes it -/
def z_enc' (v : Int32) (p : Nat × Nat) : Prop := v.toInt = (if p.1 = p.2 then -1 else 32 * (p.1 : Int) + (p.2 : Int)) ∧ p.1 < 20 ∧ p.2 < 20
theorem z_okF1 {z : j_Z} {a b : Nat} (h : z_dst z a = false) : z_okS z a b = false := by
  unfold z_okS
  rw [h, Bool.false_and, Bool.false_and]
theorem z_okF2 {z : j_Z} {a b : Nat} (h : z_dst z b = false) : z_okS z a b = false := by
  unfold z_okS
  rw [h, Bool.and_false, Bool.false_and]
theorem z_okF3 {z : j_Z} {a b : Nat} (h : (z.2.2.2.1 a 0).toInt = (z.2.2.2.1 b 0).toInt) : z_okS z a b = false := by
  unfold z_okS
  rw [decide_eq_true h]
  exact Bool.and_false _
theorem z_okT {z : j_Z} {a b : Nat} (h1 : z_dst z a = true) (h2 : z_dst z b = true) (h : ¬ (z.2.2.2.1 a 0).toInt = (z.2.2.2.1 b 0).toInt) : z_okS z a b = true := by
  unfold z_okS
  rw [h1, h2, decide_eq_false h]
  rfl
set_option maxHeartbeats 4000000 in
set_option maxRecDepth 20000 in
theorem c_Mo_swapNowx {Z : j_Z} {ρ : Nat → Nat} {h : j_H} {m P G R Q : Nat} {s : Nat} (w : j_MX ρ h m P G R Q) (ks : j_kd h s = some (.inr 0)) (ns : (j_ln h s : Int) = 2 * (j_it h R 2).toInt) (e : z_eq (z_d h m P G R Q) Z) (hs : ∀ k : Nat, (k : Int) < (j_it h R 2).toInt → j_it h s (2 * k) = z_er Z k ∧ j_it h s (2 * k + 1) = z_lr Z k) : j_Ct 220 4 90 0 0 [j_r (some m), j_r (some s)] h (fun v h' => h' = h ∧ ∃ r, v = some (j_i r) ∧ z_enc' r (z_best Z)) j_no := by
  refine j_intro km_220 (Nat.le_of_ble_eq_true rfl) ?_
  intro J hJ hF
  have wb := w.b
  have eN : (Z.1 1).toNatClampNeg = (j_it h R 2).toNatClampNeg := by rw [← e.1 1 (by decide)]; rfl
  have clN := j_clamp (i := j_it h R 2) (by omega)
  have hr : ∀ (v : Int32) (g : Nat), 0 ≤ v.toInt → v.toInt < (j_it h R 2).toInt → z_ml h R v.toNatClampNeg = g → Z.2.2.2.1 v.toNatClampNeg 6 = (if (j_it h g 6).toInt = 0 then Int32.ofInt 1 else Int32.ofInt 0) ∧ Z.2.2.2.1 v.toNatClampNeg 0 = j_it h g 0 := by
    intro v g h0 h1 hg
    have lt : z_lt (z_d h m P G R Q) 1 v.toNatClampNeg := by
      show (v.toNatClampNeg : Int) < (j_it h R 2).toInt
      rw [j_clamp h0]
      exact h1
    rw [← e.2.2.2.1 _ 6 lt (by decide), ← e.2.2.2.1 _ 0 lt (by decide), ← hg]
    exact ⟨rfl, rfl⟩
  have hst : ∀ (v : Int32) (g : Nat), 0 ≤ v.toInt → v.toInt < (j_it h R 2).toInt → z_ml h R v.toNatClampNeg = g → z_dst Z v.toNatClampNeg = decide ((j_it h g 6).toInt = 0) := by
    intro v g h0 h1 hg
    unfold z_dst
    rw [(hr v g h0 h1 hg).1]
    by_cases q : (j_it h g 6).toInt = 0
    · rw [if_pos q, decide_eq_true q]
      decide
    · rw [if_neg q, decide_eq_false q]
      decide
  refine hJ [11, 29] 400 _ _ _ _ _ _ ?_
  conv => whnf
  refine ⟨w.km, rfl, _, _, _, _, _, _, c_Mo_doublesx w ks (by omega) e hs, ⟨Nat.le_of_ble_eq_true rfl, Nat.le_of_ble_eq_true rfl, by (try dsimp only); omega, by (try dsimp only); omega⟩, fun _ _ z => False.elim z, ?_⟩
  rintro v9 h9 ⟨e9, r1, rfl, hr1⟩
  obtain rfl : h = h9 := e9.symm
  have L11_5 : ∀ (k : Nat) (v2 : Int32) (v3 : Int32) (v4 : Int32) (cn sn : Nat), z_enc' v2 (z_bk Z (Z.1 1).toNatClampNeg v4.toNatClampNeg).2 → v3.toInt = ((z_bk Z (Z.1 1).toNatClampNeg v4.toNatClampNeg).1 : Int) → v4.toInt ≤ (j_it h R 2).toInt → cn ≤ 0 → sn ≤ 0 → 0 ≤ v4.toInt → (2147483647 - v4.toInt) < (k : Int) → J 11 [some (j_r (some m)), some (j_r (some s)), some (j_i v2), some (j_i v3), some (j_i v4), none, none] [] h cn sn := by
    intro k
    induction k with
    | zero => intro v2 v3 v4 cn sn q2 q3 hl hcn hsn hn hm; exact absurd hm (by have := j_ub v4; omega)
    | succ k ihB6 =>
      intro v2 v3 v4 cn sn q2 q3 hl hcn hsn hn hm
      have sbB6 : j_Mf ρ m h h := j_Mf.rf
      have cl4 := j_clamp hn
      have t4 : v4.toInt < 2147483647 := by omega
      have uv2 := j_ub v2; have lv2 := j_lb v2
      have uv3 := j_ub v3; have lv3 := j_lb v3
      have uv4 := j_ub v4; have lv4 := j_lb v4
      have zG8 := congrArg Int32.toInt (sbB6.sz w.lG.1)
      have zR8 := congrArg Int32.toInt (sbB6.sz w.lR.1)
      have zQ8 := congrArg Int32.toInt (sbB6.sz w.lQ.1)
      have n8_s := sbB6.ln ks
      have k8_s := sbB6.kd ks
      have w8 := w.f sbB6
      have f8_0 := (j_Mf.rf : j_Mf ρ m h h).tr sbB6
      refine hJ [11, 29] 400 _ _ _ _ _ _ ?_
      conv => whnf
      refine ⟨_, rfl, w8.km, fun o9 eo => ?_⟩
      obtain rfl : o9 = some R := eo.symm.trans w8.eR
      conv => whnf
      refine ⟨w8.lR.1, rfl, _, _, _, _, _, _, c_AL_size (h := h) w8.lR j_Sc.rf j_sf_ok, ⟨Nat.le_of_ble_eq_true rfl, Nat.le_of_ble_eq_true rfl, by (try dsimp only); omega, by (try dsimp only); omega⟩, fun _ _ z => False.elim z, ?_⟩
      rintro v9 h9 ⟨e9, rfl⟩
      obtain rfl : h = h9 := e9.symm
      have u10 := j_ub v4
      conv => whnf
      refine ⟨fun c11 => ?_, fun c11 => ?_⟩
      · have c11 : ((j_it h R 2)).toInt ≤ (v4).toInt := c11
        conv => whnf
        exact ⟨trivial, ⟨by (try dsimp only); omega, by (try dsimp only); omega⟩, rfl, _, rfl, by show z_enc' v2 (z_bk Z (Z.1 1).toNatClampNeg (Z.1 1).toNatClampNeg).2; rw [show (Z.1 1).toNatClampNeg = v4.toNatClampNeg by omega] at q2 ⊢; exact q2⟩
      · have c11 : ¬ ((j_it h R 2)).toInt ≤ (v4).toInt := c11
        have L29_15 : ∀ (k : Nat) (v12 : Int32) (v13 : Int32) (v14 : Int32) (cn sn : Nat), z_enc' v12 (z_bj Z v4.toNatClampNeg v14.toNatClampNeg (z_bk Z (Z.1 1).toNatClampNeg v4.toNatClampNeg)).2 → v13.toInt = ((z_bj Z v4.toNatClampNeg v14.toNatClampNeg (z_bk Z (Z.1 1).toNatClampNeg v4.toNatClampNeg)).1 : Int) → v4.toInt < v14.toInt → v14.toInt ≤ (j_it h R 2).toInt → cn ≤ 0 → sn ≤ 0 → 0 ≤ v14.toInt → (2147483647 - v14.toInt) < (k : Int) → J 29 [some (j_r (some m)), some (j_r (some s)), some (j_i v12), some (j_i v13), some (j_i v4), some (j_i v14), none] [] h cn sn := by
          intro k
          induction k with
          | zero => intro v12 v13 v14 cn sn p2 p3 h5 hl14 hcn hsn hn hm; exact absurd hm (by have := j_ub v14; omega)
          | succ k ihB16 =>
            intro v12 v13 v14 cn sn p2 p3 h5 hl14 hcn hsn hn14 hm14
            have sbB16 : j_Mf ρ m h h := j_Mf.rf
            have cl14 := j_clamp hn14
            have uv12 := j_ub v12; have lv12 := j_lb v12
            have uv13 := j_ub v13; have lv13 := j_lb v13
            have uv14 := j_ub v14; have lv14 := j_lb v14
            have zG18 := congrArg Int32.toInt (sbB16.sz w8.lG.1)
            have zR18 := congrArg Int32.toInt (sbB16.sz w8.lR.1)
            have zQ18 := congrArg Int32.toInt (sbB16.sz w8.lQ.1)
            have n18_s := sbB16.ln k8_s
            have k18_s := sbB16.kd k8_s
            have w18 := w8.f sbB16
            have f18_0 := f8_0.tr sbB16
            have f18_B6 := sbB6.tr sbB16
            refine hJ [11, 29] 400 _ _ _ _ _ _ ?_
            conv => whnf
            refine ⟨_, rfl, w18.km, fun o19 eo => ?_⟩
            obtain rfl : o19 = some R := eo.symm.trans w18.eR
            conv => whnf
            refine ⟨w18.lR.1, rfl, _, _, _, _, _, _, c_AL_size (h := h) w18.lR j_Sc.rf j_sf_ok, ⟨Nat.le_of_ble_eq_true rfl, Nat.le_of_ble_eq_true rfl, by (try dsimp only); omega, by (try dsimp only); omega⟩, fun _ _ z => False.elim z, ?_⟩
            rintro v9 h9 ⟨e9, rfl⟩
            obtain rfl : h = h9 := e9.symm
            have u20 := j_ub v14
            conv => whnf
            refine ⟨fun c21 => ?_, fun c21 => ?_⟩
            · have c21 : ((j_it h R 2)).toInt ≤ (v14).toInt := c21
              have t22 : (v4 + Int32.ofInt 1).toInt = v4.toInt + 1 := j_inc1 (by omega)
              have ek4 : (v4 + Int32.ofInt 1).toNatClampNeg = v4.toNatClampNeg + 1 := by have := j_clamp (i := v4 + Int32.ofInt 1) (by omega); omega
              have ev14 : v14.toNatClampNeg = (Z.1 1).toNatClampNeg := by omega
              rw [ev14] at p2 p3
              exact j_use hF (ihB6 _ _ _ _ _ (by rw [ek4]; exact p2) (by rw [ek4]; exact p3) (by omega) (by (try dsimp only); omega) (by (try dsimp only); omega) (by omega) (by omega)) (And.intro rfl (And.intro rfl (And.intro rfl (And.intro rfl (And.intro rfl trivial)))))
            · have c21 : ¬ ((j_it h R 2)).toInt ≤ (v14).toInt := c21
              have t14 : (v14 + Int32.ofInt 1).toInt = v14.toInt + 1 := j_inc1 (by omega)
              have ek14 : (v14 + Int32.ofInt 1).toNatClampNeg = v14.toNatClampNeg + 1 := by have := j_clamp (i := v14 + Int32.ofInt 1) (by omega); omega
              have bj := z_bj_n (z := Z) (a := v4.toNatClampNeg) (n := v14.toNatClampNeg) (s := (z_bk Z (Z.1 1).toNatClampNeg v4.toNatClampNeg)) (by omega)
              have nx0 : ∀ (cn sn : Nat), z_okS Z v4.toNatClampNeg v14.toNatClampNeg = false → cn ≤ 0 → sn ≤ 0 → J 29 [some (j_r (some m)), some (j_r (some s)), some (j_i v12), some (j_i v13), some (j_i v4), some (j_i (v14 + Int32.ofInt 1)), none] [] h cn sn := fun cn sn q hc hs9 => by
                rw [z_bst_n (fun y => by rw [q] at y; exact absurd y.1 (by decide))] at bj
                exact ihB16 v12 v13 (v14 + Int32.ofInt 1) cn sn (by rw [ek14, bj]; exact p2) (by rw [ek14, bj]; exact p3) (by omega) (by omega) hc hs9 (by omega) (by omega)
              conv => whnf
              refine ⟨_, rfl, w18.km, fun o23 eo => ?_⟩
              obtain rfl : o23 = some R := eo.symm.trans w18.eR
              conv => whnf
              refine ⟨w18.lR.1, rfl, _, _, _, _, _, _, c_AL_get (h := h) w18.lR j_Sc.rf j_sf_ok (by omega) (by omega), ⟨Nat.le_of_ble_eq_true rfl, Nat.le_of_ble_eq_true rfl, by (try dsimp only); omega, by (try dsimp only); omega⟩, fun _ _ z => False.elim z, ?_⟩
              rintro v9 h9 ⟨e9, g24, rfl, kg24, xg24⟩
              obtain rfl : h = h9 := e9.symm
              have q24 := z_ml_get xg24
              have feg24 := w18.aR.get (by omega) (by omega) xg24
              conv => whnf
              refine ⟨Or.inr ⟨_, rfl, kg24⟩, ?_⟩
              conv => whnf
              refine ⟨_, rfl, kg24, fun x25 ex25 => ?_⟩
              conv => whnf
              refine ⟨fun c26 => ?_, fun c26 => ?_⟩
              · have c26 : ¬ (x25).toInt = 0 := c26
                have t27 : (v14 + Int32.ofInt 1).toInt = v14.toInt + 1 := j_inc1 (by omega)
                exact j_use hF (nx0 _ _ (z_okF1 ((hst v4 g24 (by omega) (by omega) q24).trans (decide_eq_false (by rw [ex25]; exact c26)))) (by (try dsimp only); omega) (by (try dsimp only); omega)) (And.intro rfl (And.intro rfl (And.intro rfl (And.intro rfl (And.intro rfl (And.intro rfl trivial))))))
              · have c26 : ¬ ¬ (x25).toInt = 0 := c26
                conv => whnf
                refine ⟨_, rfl, w18.km, fun o28 eo => ?_⟩
                obtain rfl : o28 = some R := eo.symm.trans w18.eR
                conv => whnf
                refine ⟨w18.lR.1, rfl, _, _, _, _, _, _, c_AL_get (h := h) w18.lR j_Sc.rf j_sf_ok (by omega) (by omega), ⟨Nat.le_of_ble_eq_true rfl, Nat.le_of_ble_eq_true rfl, by (try dsimp only); omega, by (try dsimp only); omega⟩, fun _ _ z => False.elim z, ?_⟩
                rintro v9 h9 ⟨e9, g29, rfl, kg29, xg29⟩
                obtain rfl : h = h9 := e9.symm
                have q29 := z_ml_get xg29
                have feg29 := w18.aR.get (by omega) (by omega) xg29
                conv => whnf
                refine ⟨Or.inr ⟨_, rfl, kg29⟩, ?_⟩
                conv => whnf
                refine ⟨_, rfl, kg29, fun x30 ex30 => ?_⟩
                conv => whnf
                refine ⟨fun c31 => ?_, fun c31 => ?_⟩
                · have c31 : ¬ (x30).toInt = 0 := c31
                  have t32 : (v14 + Int32.ofInt 1).toInt = v14.toInt + 1 := j_inc1 (by omega)
                  exact j_use hF (nx0 _ _ (z_okF2 ((hst v14 g29 (by omega) (by omega) q29).trans (decide_eq_false (by rw [ex30]; exact c31)))) (by (try dsimp only); omega) (by (try dsimp only); omega)) (And.intro rfl (And.intro rfl (And.intro rfl (And.intro rfl (And.intro rfl (And.intro rfl trivial))))))
                · have c31 : ¬ ¬ (x30).toInt = 0 := c31
                  conv => whnf
                  refine ⟨_, rfl, w18.km, fun o33 eo => ?_⟩
                  obtain rfl : o33 = some R := eo.symm.trans w18.eR
                  conv => whnf
                  refine ⟨w18.lR.1, rfl, _, _, _, _, _, _, c_AL_get (h := h) w18.lR j_Sc.rf j_sf_ok (by omega) (by omega), ⟨Nat.le_of_ble_eq_true rfl, Nat.le_of_ble_eq_true rfl, by (try dsimp only); omega, by (try dsimp only); omega⟩, fun _ _ z => False.elim z, ?_⟩
                  rintro v9 h9 ⟨e9, g34, rfl, kg34, xg34⟩
                  obtain rfl : h = h9 := e9.symm
                  have q34 := z_ml_get xg34
                  have feg34 := w18.aR.get (by omega) (by omega) xg34
                  conv => whnf
                  refine ⟨Or.inr ⟨_, rfl, kg34⟩, ?_⟩
                  conv => whnf
                  refine ⟨_, rfl, kg34, fun x35 ex35 => ?_⟩
                  conv => whnf
                  refine ⟨_, rfl, w18.km, fun o36 eo => ?_⟩
                  obtain rfl : o36 = some R := eo.symm.trans w18.eR
                  conv => whnf
                  refine ⟨w18.lR.1, rfl, _, _, _, _, _, _, c_AL_get (h := h) w18.lR j_Sc.rf j_sf_ok (by omega) (by omega), ⟨Nat.le_of_ble_eq_true rfl, Nat.le_of_ble_eq_true rfl, by (try dsimp only); omega, by (try dsimp only); omega⟩, fun _ _ z => False.elim z, ?_⟩
                  rintro v9 h9 ⟨e9, g37, rfl, kg37, xg37⟩
                  obtain rfl : h = h9 := e9.symm
                  have q37 := z_ml_get xg37
                  have feg37 := w18.aR.get (by omega) (by omega) xg37
                  conv => whnf
                  refine ⟨Or.inr ⟨_, rfl, kg37⟩, ?_⟩
                  conv => whnf
                  refine ⟨_, rfl, kg37, fun x38 ex38 => ?_⟩
                  have u39 := j_ub x38
                  have u40 := j_ub x35
                  conv => whnf
                  refine ⟨fun c41 => ?_, fun c41 => ?_⟩
                  · have c41 : ¬ (x35).toInt = (x38).toInt := c41
                    have ok : z_okS Z v4.toNatClampNeg v14.toNatClampNeg = true := z_okT ((hst v4 g24 (by omega) (by omega) q24).trans (decide_eq_true (by rw [ex25]; exact Decidable.not_not.mp c26))) ((hst v14 g29 (by omega) (by omega) q29).trans (decide_eq_true (by rw [ex30]; exact Decidable.not_not.mp c31))) (by rw [(hr v4 g34 (by omega) (by omega) q34).2, (hr v14 g37 (by omega) (by omega) q37).2, ex35, ex38]; exact c41)
                    have nab : v4.toNatClampNeg ≠ v14.toNatClampNeg := by omega
                    conv => whnf
                    refine ⟨w18.km, rfl, _, _, _, _, _, _, c_Mo_exchangex w18 ⟨by omega, by omega⟩ ⟨by omega, by omega⟩, ⟨Nat.le_of_ble_eq_true rfl, Nat.le_of_ble_eq_true rfl, by (try dsimp only); omega, by (try dsimp only); omega⟩, fun _ _ z => False.elim z, ?_⟩
                    rintro v9 H43 ⟨rfl, eH43⟩
                    have la : (v4.toNatClampNeg : Int) < (j_it h R 2).toInt := by rw [j_clamp (by omega)]; omega
                    have lb : (v14.toNatClampNeg : Int) < (j_it h R 2).toInt := by rw [j_clamp (by omega)]; omega
                    have w45 : j_MX ρ H43 m P G R Q := by rw [eH43]; exact w18.ex (w18.r la).1 (w18.r lb).1
                    have ne1 : R ≠ z_ml h R v4.toNatClampNeg := fun z => by have q := (w18.r la).1; rw [← z, w18.lR.1] at q; cases q
                    have ne2 : R ≠ z_ml h R v14.toNatClampNeg := fun z => by have q := (w18.r lb).1; rw [← z, w18.lR.1] at q; cases q
                    have zR45 : (j_it H43 R 2).toInt = (j_it h R 2).toInt := by rw [eH43]; exact congrArg Int32.toInt (z_ex_ne (it := j_it h) (f := 2) ne1 ne2)
                    have n45_s : j_ln H43 s = j_ln h s := by rw [eH43]
                    have k45_s : j_kd H43 s = some (.inr 0) := by rw [eH43]; exact k18_s
                    have e43 : z_eq (z_d H43 m P G R Q) (n_swap Z v4 v14) := by rw [eH43]; exact (z_exc w la lb nab).tr (n_swap_c e la lb)
                    have s43 : ∀ j, j_it H43 s j = j_it h s j := fun j => by rw [eH43]; exact z_ex_ne (it := j_it h) (fun z => by have q := (w18.r la).1; rw [← z, ks] at q; cases q) (fun z => by have q := (w18.r lb).1; rw [← z, ks] at q; cases q)
                    conv => whnf
                    refine ⟨w45.km, rfl, _, _, _, _, _, _, c_Mo_doublesx w45 k45_s (by omega) e43 (fun k hk => ⟨(s43 _).trans (hs k (by omega)).1, (s43 _).trans (hs k (by omega)).2⟩), ⟨Nat.le_of_ble_eq_true rfl, Nat.le_of_ble_eq_true rfl, by (try dsimp only); omega, by (try dsimp only); omega⟩, fun _ _ z => False.elim z, ?_⟩
                    rintro v9 h9 ⟨e9, r46, rfl, hr46⟩
                    obtain rfl : H43 = h9 := e9.symm
                    conv => whnf
                    refine ⟨w45.km, rfl, _, _, _, _, _, _, c_Mo_exchangex w45 ⟨by omega, by omega⟩ ⟨by omega, by omega⟩, ⟨Nat.le_of_ble_eq_true rfl, Nat.le_of_ble_eq_true rfl, by (try dsimp only); omega, by (try dsimp only); omega⟩, fun _ _ z => False.elim z, ?_⟩
                    rintro v9 H48 ⟨rfl, eH48⟩
                    obtain rfl : h = H48 := by
                      rw [eH48, eH43]
                      exact (congrArg (j_wi h) z_ex2).symm
                    have u51 := j_ub v13
                    have hD : r46.toInt = (z_Ds Z v4.toNatClampNeg v14.toNatClampNeg : Int) := by unfold z_Ds; rw [← z_ofn hn, ← z_ofn hn14]; exact hr46
                    have u52 := j_ub r46
                    conv => whnf
                    refine ⟨fun c53 => ?_, fun c53 => ?_⟩
                    · have c53 : (r46).toInt < (v13).toInt := c53
                      have t54 : (v14 + Int32.ofInt 1).toInt = v14.toInt + 1 := j_inc1 (by omega)
                      rw [z_bst_y ⟨ok, by omega⟩] at bj
                      have q32 : ((Int8.ofInt 32).toInt32).toInt = 32 := by decide
                      have m32 := z_mul32 (x := v4) (c := (Int8.ofInt 32).toInt32) (by omega) (by omega) q32
                      exact j_use hF (ihB16 _ _ _ _ _ (by
                        rw [ek14, bj]
                        refine ⟨?_, show v4.toNatClampNeg < 20 by omega, show v14.toNatClampNeg < 20 by omega⟩
                        rw [if_neg (show ¬ v4.toNatClampNeg = v14.toNatClampNeg from nab)]
                        show ((Int8.ofInt 32).toInt32 * v4 + v14).toInt = _
                        rw [j_addI (by omega) (by omega), m32]
                        show 32 * v4.toInt + v14.toInt = 32 * (v4.toNatClampNeg : Int) + (v14.toNatClampNeg : Int)
                        omega) (by rw [ek14, bj]; exact hD) (by omega) (by omega) (by (try dsimp only); omega) (by (try dsimp only); omega) (by omega) (by omega)) (And.intro rfl (And.intro rfl (And.intro rfl (And.intro rfl (And.intro rfl (And.intro rfl trivial))))))
                    · have c53 : ¬ (r46).toInt < (v13).toInt := c53
                      have t55 : (v14 + Int32.ofInt 1).toInt = v14.toInt + 1 := j_inc1 (by omega)
                      rw [z_bst_n (fun y => by have := y.2; omega)] at bj
                      exact j_use hF (ihB16 _ _ _ _ _ (by rw [ek14, bj]; exact p2) (by rw [ek14, bj]; exact p3) (by omega) (by omega) (by (try dsimp only); omega) (by (try dsimp only); omega) (by omega) (by omega)) (And.intro rfl (And.intro rfl (And.intro rfl (And.intro rfl (And.intro rfl (And.intro rfl trivial))))))
                  · have c41 : ¬ ¬ (x35).toInt = (x38).toInt := c41
                    have t56 : (v14 + Int32.ofInt 1).toInt = v14.toInt + 1 := j_inc1 (by omega)
                    exact j_use hF (nx0 _ _ (z_okF3 (by rw [(hr v4 g34 (by omega) (by omega) q34).2, (hr v14 g37 (by omega) (by omega) q37).2, ex35, ex38]; exact Decidable.not_not.mp c41)) (by (try dsimp only); omega) (by (try dsimp only); omega)) (And.intro rfl (And.intro rfl (And.intro rfl (And.intro rfl (And.intro rfl (And.intro rfl trivial))))))
        have t57 : (v4 + Int32.ofInt 1).toInt = v4.toInt + 1 := j_inc1 (by omega)
        have ek57 : (v4 + Int32.ofInt 1).toNatClampNeg = v4.toNatClampNeg + 1 := by have := j_clamp (i := v4 + Int32.ofInt 1) (by omega); omega
        have s0 := z_bj_s (z := Z) (a := v4.toNatClampNeg) (s := (z_bk Z (Z.1 1).toNatClampNeg v4.toNatClampNeg)) (v4.toNatClampNeg + 1) (by omega)
        exact j_use hF (L29_15 4294967296 _ _ _ _ _ (by rw [ek57, s0]; exact q2) (by rw [ek57, s0]; exact q3) (by omega) (by omega) (by (try dsimp only); omega) (by (try dsimp only); omega) (by omega) (by omega)) (And.intro rfl (And.intro rfl (And.intro rfl (And.intro rfl (And.intro rfl (And.intro rfl trivial))))))
  have q58 : (Int32.ofInt (0)).toInt = 0 := by decide
  have qc58 := j_clamp (i := Int32.ofInt 0) (by omega)
  have cz : (Int32.ofInt 0).toNatClampNeg = 0 := by omega
  exact j_use hF (L11_5 4294967296 _ _ _ _ _ (by rw [cz]; exact show z_enc' (Int32.ofInt (-1)) (0, 0) from ⟨by decide, by decide, by decide⟩) (by rw [cz]; exact hr1) (by omega) (by (try dsimp only); omega) (by (try dsimp only); omega) (by omega) (by omega)) (And.intro rfl (And.intro rfl (And.intro rfl (And.intro rfl (And.intro rfl trivial)))))
