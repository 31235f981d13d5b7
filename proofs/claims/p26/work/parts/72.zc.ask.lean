/-! asking the model: word for word -/
section SY
variable {z : j_Z} {g k : Nat} {c : Int32}
theorem z_says6 (h : (z.2.2.2.1 k 6).toInt = 0) : z_says z g c k = false := by
  unfold z_says
  rw [decide_eq_false (fun q => q h), Bool.false_and]
theorem z_says0 (h : ¬ (z.2.2.2.1 k 0).toInt = (g : Int)) : z_says z g c k = false := by
  unfold z_says
  rw [decide_eq_false h, Bool.false_and, Bool.and_false]
theorem z_says1 (h1 : ¬ c.toInt = -1) (h2 : ¬ (z.2.2.2.1 k 1).toInt = c.toInt) : z_says z g c k = false := by
  unfold z_says
  rw [decide_eq_false h1, decide_eq_false h2, Bool.false_or, Bool.and_false, Bool.and_false]
theorem z_saysT (h6 : ¬ (z.2.2.2.1 k 6).toInt = 0) (h0 : (z.2.2.2.1 k 0).toInt = (g : Int)) (h1 : c.toInt = -1 ∨ (z.2.2.2.1 k 1).toInt = c.toInt) : z_says z g c k = true := by
  unfold z_says
  rw [decide_eq_true h6, decide_eq_true h0]
  rcases h1 with h1 | h1
  · rw [decide_eq_true h1]; rfl
  · rw [decide_eq_true h1, Bool.or_true]; rfl
end SY
set_option maxHeartbeats 4000000 in
set_option maxRecDepth 20000 in
theorem c_Mo_countsx {ρ : Nat → Nat} {h : j_H} {m P G R Q : Nat} {a : Int32} {b : Int32} {c : Int32} {g : Nat} (w : j_MX ρ h m P G R Q) (ha : 0 ≤ a.toInt ∧ a.toInt < (j_it h R 2).toInt) (hb : b.toInt = (g : Int)) : j_Ct 171 3 64 0 0 [j_r (some m), j_i a, j_i b, j_i c] h (fun v h' => h' = h ∧ v = some (j_i (z_b (z_says (z_d h m P G R Q) g c a.toNatClampNeg)))) j_no := by
  refine j_intro km_171 (Nat.le_of_ble_eq_true rfl) ?_
  intro J hJ hF
  have wb := w.b
  refine hJ [] 400 _ _ _ _ _ _ ?_
  conv => whnf
  refine ⟨_, rfl, w.km, fun o1 eo => ?_⟩
  obtain rfl : o1 = some R := eo.symm.trans w.eR
  conv => whnf
  refine ⟨w.lR.1, rfl, _, _, _, _, _, _, c_AL_get (h := h) w.lR j_Sc.rf j_sf_ok (by omega) (by omega), ⟨Nat.le_of_ble_eq_true rfl, Nat.le_of_ble_eq_true rfl, Nat.le_of_ble_eq_true rfl, Nat.le_of_ble_eq_true rfl⟩, fun _ _ z => False.elim z, ?_⟩
  rintro v9 h9 ⟨e9, g2, rfl, kg2, xg2⟩
  obtain rfl : h = h9 := e9.symm
  have feg2 := w.aR.get (by omega) (by omega) xg2
  have zg2 := z_ml_get xg2
  have k0 : (Int32.ofInt 0).toInt = 0 := by decide
  have k1 : (Int32.ofInt 1).toInt = 1 := by decide
  conv => whnf
  refine ⟨Or.inr ⟨_, rfl, kg2⟩, ?_⟩
  conv => whnf
  refine ⟨_, rfl, kg2, fun x3 ex3 => ?_⟩
  have r6 : (z_d h m P G R Q).2.2.2.1 a.toNatClampNeg 6 = if x3.toInt = 0 then Int32.ofInt 1 else Int32.ofInt 0 := by
    rw [← ex3, ← zg2]
    rfl
  conv => whnf
  refine ⟨fun c4 => ?_, fun c4 => ?_⟩
  · have c4 : ¬ (x3).toInt = 0 := c4
    conv => whnf
    refine ⟨Or.inl rfl, ⟨Nat.le_of_ble_eq_true rfl, Nat.le_of_ble_eq_true rfl⟩, rfl, congrArg (fun r => some (j_i r)) (show Int32.ofInt 0 = _ from ?_)⟩
    rw [z_says6 (by rw [r6, if_neg c4, k0]), z_bf]
  · have c4 : ¬ ¬ (x3).toInt = 0 := c4
    conv => whnf
    refine ⟨_, rfl, kg2, fun x5 ex5 => ?_⟩
    have r0 : (z_d h m P G R Q).2.2.2.1 a.toNatClampNeg 0 = x5 := by
      rw [← ex5, ← zg2]
      rfl
    have u6 := j_ub b
    have u7 := j_ub x5
    conv => whnf
    refine ⟨fun c8 => ?_, fun c8 => ?_⟩
    · have c8 : ¬ (x5).toInt = (b).toInt := c8
      conv => whnf
      refine ⟨Or.inl rfl, ⟨Nat.le_of_ble_eq_true rfl, Nat.le_of_ble_eq_true rfl⟩, rfl, congrArg (fun r => some (j_i r)) (show Int32.ofInt 0 = _ from ?_)⟩
      rw [z_says0 (by rw [r0, ← hb]; exact c8), z_bf]
    · have c8 : ¬ ¬ (x5).toInt = (b).toInt := c8
      have q9 : (Int32.ofInt (-1)).toInt = -1 := by decide
      have u10 := j_ub c
      conv => whnf
      refine ⟨fun c11 => ?_, fun c11 => ?_⟩
      · have c11 : (c).toInt = (Int32.ofInt (-1)).toInt := c11
        conv => whnf
        refine ⟨Or.inr rfl, ⟨Nat.le_of_ble_eq_true rfl, Nat.le_of_ble_eq_true rfl⟩, rfl, congrArg (fun r => some (j_i r)) (show Int32.ofInt 1 = _ from ?_)⟩
        rw [z_saysT (by rw [r6, if_pos (Classical.not_not.mp c4), k1]; decide) (by rw [r0, ← hb]; exact Classical.not_not.mp c8) (Or.inl (c11.trans q9)), z_bt]
      · have c11 : ¬ (c).toInt = (Int32.ofInt (-1)).toInt := c11
        conv => whnf
        refine ⟨_, rfl, kg2, fun x12 ex12 => ?_⟩
        have r1 : (z_d h m P G R Q).2.2.2.1 a.toNatClampNeg 1 = x12 := by
          rw [← ex12, ← zg2]
          rfl
        have hx12 : 0 ≤ x12.toInt ∧ x12.toInt ≤ 1 := by rw [← ex12]; exact feg2
        have u13 := j_ub c
        have u14 := j_ub x12
        conv => whnf
        refine ⟨fun c15 => ?_, fun c15 => ?_⟩
        · have c15 : ¬ (x12).toInt = (c).toInt := c15
          conv => whnf
          refine ⟨Or.inl rfl, ⟨Nat.le_of_ble_eq_true rfl, Nat.le_of_ble_eq_true rfl⟩, rfl, congrArg (fun r => some (j_i r)) (show Int32.ofInt 0 = _ from ?_)⟩
          rw [z_says1 (fun z => c11 (z.trans q9.symm)) (by rw [r1]; exact c15), z_bf]
        · have c15 : ¬ ¬ (x12).toInt = (c).toInt := c15
          conv => whnf
          refine ⟨Or.inr rfl, ⟨Nat.le_of_ble_eq_true rfl, Nat.le_of_ble_eq_true rfl⟩, rfl, congrArg (fun r => some (j_i r)) (show Int32.ofInt 1 = _ from ?_)⟩
          rw [z_saysT (by rw [r6, if_pos (Classical.not_not.mp c4), k1]; decide) (by rw [r0, ← hb]; exact Classical.not_not.mp c8) (Or.inr (by rw [r1]; exact Classical.not_not.mp c15)), z_bt]
set_option maxHeartbeats 4000000 in
set_option maxRecDepth 20000 in
theorem c_Mo_labelsx {ρ : Nat → Nat} {h : j_H} {m P G R Q : Nat} {a : Int32} (w : j_MX ρ h m P G R Q) (ha : 0 ≤ a.toInt) : j_Ct 189 4 88 0 0 [j_r (some m), j_i a] h (fun v h' => h' = h ∧ v = some (j_i (z_cnt (z_says (z_d h m P G R Q) a.toNatClampNeg (Int32.ofInt (-1))) (j_it h R 2).toNatClampNeg))) j_no := by
  refine j_intro km_189 (Nat.le_of_ble_eq_true rfl) ?_
  intro J hJ hF
  have wb := w.b
  refine hJ [4] 400 _ _ _ _ _ _ ?_
  have L4_3 : ∀ (k : Nat) (v1 : Int32) (v2 : Int32), 0 ≤ v2.toInt → v2.toInt ≤ (j_it h R 2).toInt → v1 = z_cnt (z_says (z_d h m P G R Q) a.toNatClampNeg (Int32.ofInt (-1))) v2.toNatClampNeg → (2147483647 - v2.toInt) < (k : Int) → J 4 [some (j_r (some m)), some (j_i a), some (j_i v1), some (j_i v2)] [] h 0 0 := by
    intro k
    induction k with
    | zero => intro v1 v2 hn hl hv hm; exact absurd hm (by have := j_ub v2; omega)
    | succ k ihB4 =>
      intro v1 v2 hn hl hv hm
      have uv1 := j_ub v1; have lv1 := j_lb v1
      have uv2 := j_ub v2; have lv2 := j_lb v2
      refine hJ [4] 400 _ _ _ _ _ _ ?_
      conv => whnf
      refine ⟨_, rfl, w.km, fun o5 eo => ?_⟩
      obtain rfl : o5 = some R := eo.symm.trans w.eR
      conv => whnf
      refine ⟨w.lR.1, rfl, _, _, _, _, _, _, c_AL_size (h := h) w.lR j_Sc.rf j_sf_ok, ⟨Nat.le_of_ble_eq_true rfl, Nat.le_of_ble_eq_true rfl, Nat.le_of_ble_eq_true rfl, Nat.le_of_ble_eq_true rfl⟩, fun _ _ z => False.elim z, ?_⟩
      rintro v9 h9 ⟨e9, rfl⟩
      obtain rfl : h = h9 := e9.symm
      have u6 := j_ub v2
      conv => whnf
      refine ⟨fun c7 => ?_, fun c7 => ?_⟩
      · have c7 : ((j_it h R 2)).toInt ≤ (v2).toInt := c7
        conv => whnf
        exact ⟨trivial, ⟨Nat.le_of_ble_eq_true rfl, Nat.le_of_ble_eq_true rfl⟩, rfl, congrArg (fun r => some (j_i r)) (hv.trans (by rw [show v2 = j_it h R 2 from Int32.toInt_inj.mp (by omega)]))⟩
      · have c7 : ¬ ((j_it h R 2)).toInt ≤ (v2).toInt := c7
        have q8 : (Int32.ofInt (-1)).toInt = -1 := by decide
        conv => whnf
        refine ⟨w.km, rfl, _, _, _, _, _, _, c_Mo_countsx (g := a.toNatClampNeg) w ⟨by omega, by omega⟩ (j_clamp ha).symm, ⟨Nat.le_of_ble_eq_true rfl, Nat.le_of_ble_eq_true rfl, Nat.le_of_ble_eq_true rfl, Nat.le_of_ble_eq_true rfl⟩, fun _ _ z => False.elim z, ?_⟩
        rintro v9 h9 ⟨e9, rfl⟩
        obtain rfl : h = h9 := e9.symm
        conv => whnf
        have cn : (v2 + Int32.ofInt 1).toNatClampNeg = v2.toNatClampNeg + 1 := by
          have e1 := j_inc1 (x := v2) (by omega)
          have := j_clamp (i := v2 + Int32.ofInt 1) (by omega)
          have := j_clamp hn
          omega
        refine ⟨fun c10 => ?_, fun c10 => ?_⟩
        · have c10 : (z_b (z_says (z_d h m P G R Q) a.toNatClampNeg (Int32.ofInt (-1)) v2.toNatClampNeg)).toInt = 0 := c10
          have t11 : (v2 + Int32.ofInt 1).toInt = v2.toInt + 1 := j_inc1 (by omega)
          exact j_use hF (ihB4 (v1 + Int32.ofInt 0) (v2 + Int32.ofInt 1) (by omega) (by omega) (by
            rw [cn]
            show _ = z_cnt (z_says (z_d h m P G R Q) a.toNatClampNeg (Int32.ofInt (-1))) v2.toNatClampNeg + _
            rw [if_neg (by rw [z_b0.mp c10]; decide), ← hv]) (by omega)) (And.intro rfl (And.intro rfl (And.intro rfl (And.intro rfl trivial))))
        · have c10 : ¬ (z_b (z_says (z_d h m P G R Q) a.toNatClampNeg (Int32.ofInt (-1)) v2.toNatClampNeg)).toInt = 0 := c10
          have t12 : (v2 + Int32.ofInt 1).toInt = v2.toInt + 1 := j_inc1 (by omega)
          exact j_use hF (ihB4 (v1 + Int32.ofInt 1) (v2 + Int32.ofInt 1) (by omega) (by omega) (by
            rw [cn]
            show _ = z_cnt (z_says (z_d h m P G R Q) a.toNatClampNeg (Int32.ofInt (-1))) v2.toNatClampNeg + _
            rw [if_pos (z_bn c10), ← hv]) (by omega)) (And.intro rfl (And.intro rfl (And.intro rfl (And.intro rfl trivial))))
  have q13 : (Int32.ofInt (0)).toInt = 0 := by decide
  exact j_use hF (L4_3 4294967296 (Int32.ofInt 0) (Int32.ofInt 0) (by omega) (by omega) (by rw [show (Int32.ofInt 0).toNatClampNeg = 0 by decide]; rfl) (by omega)) (And.intro rfl (And.intro rfl (And.intro rfl (And.intro rfl trivial))))
set_option maxHeartbeats 4000000 in
set_option maxRecDepth 20000 in
theorem c_Mo_ofGrainNowx {ρ : Nat → Nat} {h : j_H} {m P G R Q : Nat} {a : Int32} {b : Int32} (w : j_MX ρ h m P G R Q) (ha : 0 ≤ a.toInt ∧ a.toInt < (j_it h G 2).toInt) (hb : 0 ≤ b.toInt ∧ b.toInt ≤ 9) : j_Ct 200 5 111 0 0 [j_r (some m), j_i a, j_i b] h (fun v h' => h' = h ∧ v = some (j_i (z_gq (z_d h m P G R Q) a.toNatClampNeg b.toNatClampNeg))) j_no := by
  refine j_intro km_200 (Nat.le_of_ble_eq_true rfl) ?_
  intro J hJ hF
  have wb := w.b
  refine hJ [] 400 _ _ _ _ _ _ ?_
  conv => whnf
  refine ⟨_, rfl, w.km, fun o1 eo => ?_⟩
  obtain rfl : o1 = some G := eo.symm.trans w.eG
  conv => whnf
  refine ⟨w.lG.1, rfl, _, _, _, _, _, _, c_AL_get (h := h) w.lG j_Sc.rf j_sf_ok (by omega) (by omega), ⟨Nat.le_of_ble_eq_true rfl, Nat.le_of_ble_eq_true rfl, Nat.le_of_ble_eq_true rfl, Nat.le_of_ble_eq_true rfl⟩, fun _ _ z => False.elim z, ?_⟩
  rintro v9 h9 ⟨e9, g2, rfl, kg2, xg2⟩
  obtain rfl : h = h9 := e9.symm
  have feg2 := w.aG.get (by omega) (by omega) xg2
  have zg2 := z_ml_get xg2
  have lk : (a.toNatClampNeg : Int) < (j_it h G 2).toInt := by rw [j_clamp ha.1]; exact ha.2
  conv => whnf
  refine ⟨Or.inr ⟨_, rfl, kg2⟩, ?_⟩
  conv => whnf
  refine ⟨And.intro (fun c3 => ?_) (And.intro (fun c3 => ?_) (And.intro (fun c3 => ?_) (And.intro (fun c3 => ?_) (And.intro (fun c3 => ?_) (And.intro (fun c3 => ?_) (And.intro (fun c3 => ?_) (And.intro (fun c3 => ?_) (And.intro (fun c3 => ?_) (trivial))))))))), fun c3 => ?_⟩
  · have c3 : (b).toInt = 0 := c3
    conv => whnf
    refine ⟨_, rfl, kg2, fun o4 eo => ?_⟩
    obtain ⟨b5, eb5, kb5, nb5, rb5⟩ := feg2 0 (by decide)
    obtain rfl : o4 = some b5 := eo.symm.trans eb5
    conv => whnf
    refine ⟨by decide, ?_⟩
    conv => whnf
    refine ⟨_, _, rfl, kb5, rfl, j_vp (j_div3 (by omega) (by omega)).1 (by have := (j_div3 (y := b) (by omega) (by omega)).2; omega), fun x6 ex6 => ?_⟩
    conv => whnf
    refine ⟨trivial, ⟨Nat.le_of_ble_eq_true rfl, Nat.le_of_ble_eq_true rfl⟩, rfl, congrArg (fun r => some (j_i r)) ?_⟩
    have ek : b = Int32.ofInt 0 := Int32.toInt_inj.mp (c3.trans (by decide))
    rw [ek] at ex6 ⊢
    obtain ⟨d, d1, d2, d3, d4, d5⟩ := w.ga lk (show 0 < 4 by decide)
    rw [zg2] at d1
    obtain rfl : b5 = d := Option.some.inj (eb5.symm.trans d1)
    rw [show (Int32.ofInt 0 / Int32.ofInt 3).toNatClampNeg = 0 by decide, ← d5] at ex6
    rw [show (Int32.ofInt 0).toNatClampNeg = 0 by decide, ← ex6]
    rfl
  · have c3 : (b).toInt = 1 := c3
    conv => whnf
    refine ⟨_, rfl, kg2, fun o7 eo => ?_⟩
    obtain ⟨b8, eb8, kb8, nb8, rb8⟩ := feg2 1 (by decide)
    obtain rfl : o7 = some b8 := eo.symm.trans eb8
    conv => whnf
    refine ⟨by decide, ?_⟩
    conv => whnf
    refine ⟨_, _, rfl, kb8, rfl, j_vp (j_div3 (by omega) (by omega)).1 (by have := (j_div3 (y := b) (by omega) (by omega)).2; omega), fun x9 ex9 => ?_⟩
    conv => whnf
    refine ⟨trivial, ⟨Nat.le_of_ble_eq_true rfl, Nat.le_of_ble_eq_true rfl⟩, rfl, congrArg (fun r => some (j_i r)) ?_⟩
    have ek : b = Int32.ofInt 1 := Int32.toInt_inj.mp (c3.trans (by decide))
    rw [ek] at ex9 ⊢
    obtain ⟨d, d1, d2, d3, d4, d5⟩ := w.ga lk (show 1 < 4 by decide)
    rw [zg2] at d1
    obtain rfl : b8 = d := Option.some.inj (eb8.symm.trans d1)
    rw [show (Int32.ofInt 1 / Int32.ofInt 3).toNatClampNeg = 0 by decide, ← d5] at ex9
    rw [show (Int32.ofInt 1).toNatClampNeg = 1 by decide, ← ex9]
    rfl
  · have c3 : (b).toInt = 2 := c3
    conv => whnf
    refine ⟨_, rfl, kg2, fun o10 eo => ?_⟩
    obtain ⟨b11, eb11, kb11, nb11, rb11⟩ := feg2 2 (by decide)
    obtain rfl : o10 = some b11 := eo.symm.trans eb11
    conv => whnf
    refine ⟨by decide, ?_⟩
    conv => whnf
    refine ⟨_, _, rfl, kb11, rfl, j_vp (j_div3 (by omega) (by omega)).1 (by have := (j_div3 (y := b) (by omega) (by omega)).2; omega), fun x12 ex12 => ?_⟩
    conv => whnf
    refine ⟨trivial, ⟨Nat.le_of_ble_eq_true rfl, Nat.le_of_ble_eq_true rfl⟩, rfl, congrArg (fun r => some (j_i r)) ?_⟩
    have ek : b = Int32.ofInt 2 := Int32.toInt_inj.mp (c3.trans (by decide))
    rw [ek] at ex12 ⊢
    obtain ⟨d, d1, d2, d3, d4, d5⟩ := w.ga lk (show 2 < 4 by decide)
    rw [zg2] at d1
    obtain rfl : b11 = d := Option.some.inj (eb11.symm.trans d1)
    rw [show (Int32.ofInt 2 / Int32.ofInt 3).toNatClampNeg = 0 by decide, ← d5] at ex12
    rw [show (Int32.ofInt 2).toNatClampNeg = 2 by decide, ← ex12]
    rfl
  · have c3 : (b).toInt = 3 := c3
    conv => whnf
    refine ⟨_, rfl, kg2, fun o13 eo => ?_⟩
    obtain ⟨b14, eb14, kb14, nb14, rb14⟩ := feg2 0 (by decide)
    obtain rfl : o13 = some b14 := eo.symm.trans eb14
    conv => whnf
    refine ⟨by decide, ?_⟩
    conv => whnf
    refine ⟨_, _, rfl, kb14, rfl, j_vp (j_div3 (by omega) (by omega)).1 (by have := (j_div3 (y := b) (by omega) (by omega)).2; omega), fun x15 ex15 => ?_⟩
    conv => whnf
    refine ⟨trivial, ⟨Nat.le_of_ble_eq_true rfl, Nat.le_of_ble_eq_true rfl⟩, rfl, congrArg (fun r => some (j_i r)) ?_⟩
    have ek : b = Int32.ofInt 3 := Int32.toInt_inj.mp (c3.trans (by decide))
    rw [ek] at ex15 ⊢
    obtain ⟨d, d1, d2, d3, d4, d5⟩ := w.ga lk (show 0 < 4 by decide)
    rw [zg2] at d1
    obtain rfl : b14 = d := Option.some.inj (eb14.symm.trans d1)
    rw [show (Int32.ofInt 3 / Int32.ofInt 3).toNatClampNeg = 1 by decide, ← d5] at ex15
    rw [show (Int32.ofInt 3).toNatClampNeg = 3 by decide, ← ex15]
    rfl
  · have c3 : (b).toInt = 4 := c3
    conv => whnf
    refine ⟨_, rfl, kg2, fun o16 eo => ?_⟩
    obtain ⟨b17, eb17, kb17, nb17, rb17⟩ := feg2 1 (by decide)
    obtain rfl : o16 = some b17 := eo.symm.trans eb17
    conv => whnf
    refine ⟨by decide, ?_⟩
    conv => whnf
    refine ⟨_, _, rfl, kb17, rfl, j_vp (j_div3 (by omega) (by omega)).1 (by have := (j_div3 (y := b) (by omega) (by omega)).2; omega), fun x18 ex18 => ?_⟩
    conv => whnf
    refine ⟨trivial, ⟨Nat.le_of_ble_eq_true rfl, Nat.le_of_ble_eq_true rfl⟩, rfl, congrArg (fun r => some (j_i r)) ?_⟩
    have ek : b = Int32.ofInt 4 := Int32.toInt_inj.mp (c3.trans (by decide))
    rw [ek] at ex18 ⊢
    obtain ⟨d, d1, d2, d3, d4, d5⟩ := w.ga lk (show 1 < 4 by decide)
    rw [zg2] at d1
    obtain rfl : b17 = d := Option.some.inj (eb17.symm.trans d1)
    rw [show (Int32.ofInt 4 / Int32.ofInt 3).toNatClampNeg = 1 by decide, ← d5] at ex18
    rw [show (Int32.ofInt 4).toNatClampNeg = 4 by decide, ← ex18]
    rfl
  · have c3 : (b).toInt = 5 := c3
    conv => whnf
    refine ⟨_, rfl, kg2, fun o19 eo => ?_⟩
    obtain ⟨b20, eb20, kb20, nb20, rb20⟩ := feg2 2 (by decide)
    obtain rfl : o19 = some b20 := eo.symm.trans eb20
    conv => whnf
    refine ⟨by decide, ?_⟩
    conv => whnf
    refine ⟨_, _, rfl, kb20, rfl, j_vp (j_div3 (by omega) (by omega)).1 (by have := (j_div3 (y := b) (by omega) (by omega)).2; omega), fun x21 ex21 => ?_⟩
    conv => whnf
    refine ⟨trivial, ⟨Nat.le_of_ble_eq_true rfl, Nat.le_of_ble_eq_true rfl⟩, rfl, congrArg (fun r => some (j_i r)) ?_⟩
    have ek : b = Int32.ofInt 5 := Int32.toInt_inj.mp (c3.trans (by decide))
    rw [ek] at ex21 ⊢
    obtain ⟨d, d1, d2, d3, d4, d5⟩ := w.ga lk (show 2 < 4 by decide)
    rw [zg2] at d1
    obtain rfl : b20 = d := Option.some.inj (eb20.symm.trans d1)
    rw [show (Int32.ofInt 5 / Int32.ofInt 3).toNatClampNeg = 1 by decide, ← d5] at ex21
    rw [show (Int32.ofInt 5).toNatClampNeg = 5 by decide, ← ex21]
    rfl
  · have c3 : (b).toInt = 6 := c3
    conv => whnf
    refine ⟨_, rfl, w.km, fun x22 ex22 => ?_⟩
    conv => whnf
    refine ⟨_, rfl, kg2, fun x23 ex23 => ?_⟩
    conv => whnf
    refine ⟨trivial, ⟨Nat.le_of_ble_eq_true rfl, Nat.le_of_ble_eq_true rfl⟩, rfl, congrArg (fun r => some (j_i r)) ?_⟩
    rw [show b.toNatClampNeg = 6 by have := j_clamp hb.1; omega, ← ex22, ← ex23, ← zg2]
    rfl
  · have c3 : (b).toInt = 7 := c3
    conv => whnf
    refine ⟨_, rfl, kg2, fun x24 ex24 => ?_⟩
    conv => whnf
    refine ⟨trivial, ⟨Nat.le_of_ble_eq_true rfl, Nat.le_of_ble_eq_true rfl⟩, rfl, congrArg (fun r => some (j_i r)) ?_⟩
    rw [show b.toNatClampNeg = 7 by have := j_clamp hb.1; omega, ← ex24, ← zg2]
    rfl
  · have c3 : (b).toInt = 8 := c3
    conv => whnf
    refine ⟨_, rfl, kg2, fun x25 ex25 => ?_⟩
    conv => whnf
    refine ⟨fun c26 => ?_, fun c26 => ?_⟩
    · have c26 : (x25).toInt = 0 := c26
      conv => whnf
      refine ⟨trivial, ⟨Nat.le_of_ble_eq_true rfl, Nat.le_of_ble_eq_true rfl⟩, rfl, congrArg (fun r => some (j_i r)) ?_⟩
      rw [show b.toNatClampNeg = 8 by have := j_clamp hb.1; omega]
      have e8 : z_gq (z_d h m P G R Q) a.toNatClampNeg 8 = z_b (decide (¬ x25.toInt = 0)) := by
        rw [← ex25, ← zg2]
        rfl
      rw [e8, decide_eq_false (fun q => q c26)]
      rfl
    · have c26 : ¬ (x25).toInt = 0 := c26
      conv => whnf
      refine ⟨trivial, ⟨Nat.le_of_ble_eq_true rfl, Nat.le_of_ble_eq_true rfl⟩, rfl, congrArg (fun r => some (j_i r)) ?_⟩
      rw [show b.toNatClampNeg = 8 by have := j_clamp hb.1; omega]
      have e8 : z_gq (z_d h m P G R Q) a.toNatClampNeg 8 = z_b (decide (¬ x25.toInt = 0)) := by
        rw [← ex25, ← zg2]
        rfl
      rw [e8, decide_eq_true c26]
      rfl
  · have c3 : (b).toInt < 0 ∨ 8 < (b).toInt := c3
    conv => whnf
    refine ⟨w.km, rfl, _, _, _, _, _, _, c_Mo_labelsx w ha.1, ⟨Nat.le_of_ble_eq_true rfl, Nat.le_of_ble_eq_true rfl, Nat.le_of_ble_eq_true rfl, Nat.le_of_ble_eq_true rfl⟩, fun _ _ z => False.elim z, ?_⟩
    rintro v9 h9 ⟨e9, rfl⟩
    obtain rfl : h = h9 := e9.symm
    conv => whnf
    refine ⟨trivial, ⟨Nat.le_of_ble_eq_true rfl, Nat.le_of_ble_eq_true rfl⟩, rfl, congrArg (fun r => some (j_i r)) ?_⟩
    rw [show b.toNatClampNeg = 9 by have := j_clamp hb.1; omega]
    rfl
theorem z_mxb {y : Int32} (h : y.toInt ≤ 100000) : 0 ≤ (if Int32.ofInt (0) < y then y else Int32.ofInt (0)).toInt ∧ (if Int32.ofInt (0) < y then y else Int32.ofInt (0)).toInt ≤ 100000 := by
  have z0 : (Int32.ofInt 0).toInt = 0 := by decide
  by_cases q : Int32.ofInt (0) < y
  · rw [if_pos q]
    have q := Int32.lt_iff_toInt_lt.mp q
    omega
  · rw [if_neg q, z0]; omega
theorem z_r0e {p d s : Int32} (p0 : 0 ≤ p.toInt) (p1 : p.toInt ≤ 10008) (d0 : 0 ≤ d.toInt) (d1 : d.toInt ≤ 10008) (s0 : 0 ≤ s.toInt) (s1 : s.toInt ≤ 9) : 0 ≤ ((p + s) + (if Int32.ofInt (0) < (d - s) then (d - s) else Int32.ofInt (0))).toInt := by
  have e1 : (p + s).toInt = p.toInt + s.toInt := j_addI (by omega) (by omega)
  have e2 : (d - s).toInt = d.toInt - s.toInt := j_subI (by omega) (by omega)
  have e3 := z_mxb (y := d - s) (by omega)
  rw [j_addI (by omega) (by omega)]
  omega
theorem z_r0l {p d s : Int32} (p0 : 0 ≤ p.toInt) (p1 : p.toInt ≤ 10008) (d0 : 0 ≤ d.toInt) (d1 : d.toInt ≤ 10008) (s0 : 0 ≤ s.toInt) (s1 : s.toInt ≤ 9) : 0 ≤ ((if Int32.ofInt (0) < (p - s) then (p - s) else Int32.ofInt (0)) + (d + s)).toInt := by
  have e1 : (d + s).toInt = d.toInt + s.toInt := j_addI (by omega) (by omega)
  have e2 : (p - s).toInt = p.toInt - s.toInt := j_subI (by omega) (by omega)
  have e3 := z_mxb (y := p - s) (by omega)
  rw [j_addI (by omega) (by omega)]
  omega
set_option maxHeartbeats 4000000 in
set_option maxRecDepth 20000 in
theorem c_Mo_earlyx {ρ : Nat → Nat} {h : j_H} {m P G R Q : Nat} {e k : Nat} {b : Int32} (w : j_MX ρ h m P G R Q) (ke : j_kd h e = some (.inl 11)) (V : z_V (z_d h m P G R Q)) (hk : (k : Int) < (j_it h R 2).toInt) (he : z_ml h R k = e) (hb : 2 ≤ b.toInt) : j_Ct 175 1 24 0 0 [j_r (some m), j_r (some e), j_i b] h (fun v h' => h' = h ∧ v = some (j_i ((z_te b ((z_d h m P G R Q).2.2.2.1 k 2) ((z_d h m P G R Q).2.2.2.1 k 3) ((z_d h m P G R Q).2.2.2.1 k 4) + (z_d h m P G R Q).1 6) - ((z_d h m P G R Q).2.2.2.1 k 5)))) j_no := by
  refine j_intro km_175 (Nat.le_of_ble_eq_true rfl) ?_
  intro J hJ hF
  have wb := w.b
  have hk0 : z_lt (z_d h m P G R Q) 1 k := hk
  obtain ⟨-, vm, vd, vs⟩ := V.2.2.2 k hk0
  have d2 : (z_d h m P G R Q).2.2.2.1 k 2 = j_it h e 2 := by rw [← he]; rfl
  have d3 : (z_d h m P G R Q).2.2.2.1 k 3 = j_it h e 3 := by rw [← he]; rfl
  have d4 : (z_d h m P G R Q).2.2.2.1 k 4 = j_it h e 4 := by rw [← he]; rfl
  have d5 : (z_d h m P G R Q).2.2.2.1 k 5 = j_it h e 5 := by rw [← he]; rfl
  rw [d2] at vm
  rw [d3] at vd
  rw [d4] at vs
  rw [d2, d3, d4, d5] at hJ
  refine hJ [] 400 _ _ _ _ _ _ ?_
  conv => whnf
  refine ⟨_, rfl, ke, fun x1 ex1 => ?_⟩
  obtain rfl : x1 = j_it h e 2 := ex1.symm
  conv => whnf
  refine ⟨_, rfl, ke, fun x2 ex2 => ?_⟩
  obtain rfl : x2 = j_it h e 4 := ex2.symm
  conv => whnf
  refine ⟨_, rfl, ke, fun x3 ex3 => ?_⟩
  obtain rfl : x3 = j_it h e 3 := ex3.symm
  conv => whnf
  refine ⟨_, rfl, ke, fun x4 ex4 => ?_⟩
  obtain rfl : x4 = j_it h e 4 := ex4.symm
  conv => whnf
  refine ⟨⟨Nat.le_of_ble_eq_true rfl, Nat.le_of_ble_eq_true rfl, Nat.le_of_ble_eq_true rfl, Nat.le_of_ble_eq_true rfl⟩, ?_⟩
  conv => whnf
  refine ⟨rfl, _, _, _, _, _, _, c_Mo_earlix hb (z_r0e vm.1 vm.2 vd.1 vd.2 vs.1 vs.2), ⟨Nat.le_of_ble_eq_true rfl, Nat.le_of_ble_eq_true rfl, Nat.le_of_ble_eq_true rfl, Nat.le_of_ble_eq_true rfl⟩, fun _ _ z => False.elim z, ?_⟩
  rintro v9 h9 ⟨e9, rfl⟩
  obtain rfl : h = h9 := e9.symm
  conv => whnf
  refine ⟨_, rfl, w.km, fun x6 ex6 => ?_⟩
  obtain rfl : x6 = j_it h m 2 := ex6.symm
  conv => whnf
  refine ⟨_, rfl, ke, fun x7 ex7 => ?_⟩
  obtain rfl : x7 = j_it h e 5 := ex7.symm
  conv => whnf
  exact ⟨trivial, ⟨Nat.le_of_ble_eq_true rfl, Nat.le_of_ble_eq_true rfl⟩, rfl, rfl⟩
set_option maxHeartbeats 4000000 in
set_option maxRecDepth 20000 in
theorem c_Mo_latex {ρ : Nat → Nat} {h : j_H} {m P G R Q : Nat} {e k : Nat} {b : Int32} (w : j_MX ρ h m P G R Q) (ke : j_kd h e = some (.inl 11)) (V : z_V (z_d h m P G R Q)) (hk : (k : Int) < (j_it h R 2).toInt) (he : z_ml h R k = e) (hb : 2 ≤ b.toInt) : j_Ct 190 1 24 0 0 [j_r (some m), j_r (some e), j_i b] h (fun v h' => h' = h ∧ v = some (j_i ((z_tl b ((z_d h m P G R Q).2.2.2.1 k 2) ((z_d h m P G R Q).2.2.2.1 k 3) ((z_d h m P G R Q).2.2.2.1 k 4) + (z_d h m P G R Q).1 6) - ((z_d h m P G R Q).2.2.2.1 k 5)))) j_no := by
  refine j_intro km_190 (Nat.le_of_ble_eq_true rfl) ?_
  intro J hJ hF
  have wb := w.b
  have hk0 : z_lt (z_d h m P G R Q) 1 k := hk
  obtain ⟨-, vm, vd, vs⟩ := V.2.2.2 k hk0
  have d2 : (z_d h m P G R Q).2.2.2.1 k 2 = j_it h e 2 := by rw [← he]; rfl
  have d3 : (z_d h m P G R Q).2.2.2.1 k 3 = j_it h e 3 := by rw [← he]; rfl
  have d4 : (z_d h m P G R Q).2.2.2.1 k 4 = j_it h e 4 := by rw [← he]; rfl
  have d5 : (z_d h m P G R Q).2.2.2.1 k 5 = j_it h e 5 := by rw [← he]; rfl
  rw [d2] at vm
  rw [d3] at vd
  rw [d4] at vs
  rw [d2, d3, d4, d5] at hJ
  refine hJ [] 400 _ _ _ _ _ _ ?_
  conv => whnf
  refine ⟨_, rfl, ke, fun x1 ex1 => ?_⟩
  obtain rfl : x1 = j_it h e 2 := ex1.symm
  conv => whnf
  refine ⟨_, rfl, ke, fun x2 ex2 => ?_⟩
  obtain rfl : x2 = j_it h e 4 := ex2.symm
  conv => whnf
  refine ⟨⟨Nat.le_of_ble_eq_true rfl, Nat.le_of_ble_eq_true rfl, Nat.le_of_ble_eq_true rfl, Nat.le_of_ble_eq_true rfl⟩, ?_⟩
  conv => whnf
  refine ⟨_, rfl, ke, fun x3 ex3 => ?_⟩
  obtain rfl : x3 = j_it h e 3 := ex3.symm
  conv => whnf
  refine ⟨_, rfl, ke, fun x4 ex4 => ?_⟩
  obtain rfl : x4 = j_it h e 4 := ex4.symm
  conv => whnf
  refine ⟨rfl, _, _, _, _, _, _, c_Mo_latix hb (z_r0l vm.1 vm.2 vd.1 vd.2 vs.1 vs.2), ⟨Nat.le_of_ble_eq_true rfl, Nat.le_of_ble_eq_true rfl, Nat.le_of_ble_eq_true rfl, Nat.le_of_ble_eq_true rfl⟩, fun _ _ z => False.elim z, ?_⟩
  rintro v9 h9 ⟨e9, rfl⟩
  obtain rfl : h = h9 := e9.symm
  conv => whnf
  refine ⟨_, rfl, w.km, fun x6 ex6 => ?_⟩
  obtain rfl : x6 = j_it h m 2 := ex6.symm
  conv => whnf
  refine ⟨_, rfl, ke, fun x7 ex7 => ?_⟩
  obtain rfl : x7 = j_it h e 5 := ex7.symm
  conv => whnf
  refine ⟨trivial, ⟨Nat.le_of_ble_eq_true rfl, Nat.le_of_ble_eq_true rfl⟩, rfl, congrArg (fun r => some (j_i r)) ?_⟩
  unfold z_tl
  rw [Int32.add_assoc (if Int32.ofInt (0) < (j_it h e 2 - j_it h e 4) then (j_it h e 2 - j_it h e 4) else Int32.ofInt (0))]
  rfl
theorem z_pmx {ρ : Nat → Nat} {h : j_H} {m P G R Q : Nat} {x : Int32} (hx : 0 ≤ x.toInt ∧ x.toInt ≤ 1) : j_it h P x.toNatClampNeg = (z_d h m P G R Q).1 (j_pf x) := by
  rcases j_pf34' x with ⟨q1, q2⟩ | ⟨q1, q2⟩
  · rw [q2, show x.toNatClampNeg = 0 by have := j_clamp hx.1; omega]
    rfl
  · rw [q2, show x.toNatClampNeg = 1 by have := j_clamp hx.1; omega]
    rfl
theorem z_V.tp {z : j_Z} (v : z_V z) (c : Int32) : 2 ≤ (z.1 (j_pf c)).toInt ∧ (z.1 (j_pf c)).toInt ≤ 200 := by
  rcases j_pf34' c with ⟨q1, q2⟩ | ⟨q1, q2⟩
  · rw [q2]; exact v.1.1
  · rw [q2]; exact v.1.2
set_option maxHeartbeats 4000000 in
set_option maxRecDepth 20000 in
theorem c_Mo_ofRunNowx {ρ : Nat → Nat} {h : j_H} {m P G R Q : Nat} {a : Int32} {b : Int32} (w : j_MX ρ h m P G R Q) (V : z_V (z_d h m P G R Q)) (ha : 0 ≤ a.toInt ∧ a.toInt < (j_it h R 2).toInt) (hb : 0 ≤ b.toInt ∧ b.toInt ≤ 7) : j_Ct 204 3 64 0 0 [j_r (some m), j_i a, j_i b] h (fun v h' => h' = h ∧ v = some (j_i (z_rq (z_d h m P G R Q) a.toNatClampNeg b.toNatClampNeg))) j_no := by
  refine j_intro km_204 (Nat.le_of_ble_eq_true rfl) ?_
  intro J hJ hF
  have wb := w.b
  refine hJ [] 400 _ _ _ _ _ _ ?_
  conv => whnf
  refine ⟨_, rfl, w.km, fun o1 eo => ?_⟩
  obtain rfl : o1 = some R := eo.symm.trans w.eR
  conv => whnf
  refine ⟨w.lR.1, rfl, _, _, _, _, _, _, c_AL_get (h := h) w.lR j_Sc.rf j_sf_ok (by omega) (by omega), ⟨Nat.le_of_ble_eq_true rfl, Nat.le_of_ble_eq_true rfl, Nat.le_of_ble_eq_true rfl, Nat.le_of_ble_eq_true rfl⟩, fun _ _ z => False.elim z, ?_⟩
  rintro v9 h9 ⟨e9, g2, rfl, kg2, xg2⟩
  obtain rfl : h = h9 := e9.symm
  have feg2 := w.aR.get (by omega) (by omega) xg2
  have zg2 := z_ml_get xg2
  have lk : (a.toNatClampNeg : Int) < (j_it h R 2).toInt := by rw [j_clamp ha.1]; exact ha.2
  have d1 : (z_d h m P G R Q).2.2.2.1 a.toNatClampNeg 1 = j_it h g2 1 := by rw [← zg2]; rfl
  conv => whnf
  refine ⟨Or.inr ⟨_, rfl, kg2⟩, ?_⟩
  conv => whnf
  refine ⟨And.intro (fun c3 => ?_) (And.intro (fun c3 => ?_) (And.intro (fun c3 => ?_) (And.intro (fun c3 => ?_) (And.intro (fun c3 => ?_) (And.intro (fun c3 => ?_) (And.intro (fun c3 => ?_) (trivial))))))), fun c3 => ?_⟩
  · have c3 : (b).toInt = 0 := c3
    conv => whnf
    refine ⟨_, rfl, kg2, fun x4 ex4 => ?_⟩
    conv => whnf
    refine ⟨trivial, ⟨Nat.le_of_ble_eq_true rfl, Nat.le_of_ble_eq_true rfl⟩, rfl, congrArg (fun r => some (j_i r)) ?_⟩
    rw [show b.toNatClampNeg = 0 by have := j_clamp hb.1; omega, ← ex4, ← zg2]
    rfl
  · have c3 : (b).toInt = 1 := c3
    conv => whnf
    refine ⟨_, rfl, kg2, fun x5 ex5 => ?_⟩
    have hx5 : 0 ≤ x5.toInt ∧ x5.toInt ≤ 1 := by rw [← ex5]; exact feg2
    conv => whnf
    refine ⟨trivial, ⟨Nat.le_of_ble_eq_true rfl, Nat.le_of_ble_eq_true rfl⟩, rfl, congrArg (fun r => some (j_i r)) ?_⟩
    rw [show b.toNatClampNeg = 1 by have := j_clamp hb.1; omega, ← ex5, ← zg2]
    rfl
  · have c3 : (b).toInt = 2 := c3
    conv => whnf
    refine ⟨_, rfl, kg2, fun x6 ex6 => ?_⟩
    conv => whnf
    refine ⟨trivial, ⟨Nat.le_of_ble_eq_true rfl, Nat.le_of_ble_eq_true rfl⟩, rfl, congrArg (fun r => some (j_i r)) ?_⟩
    rw [show b.toNatClampNeg = 2 by have := j_clamp hb.1; omega, ← ex6, ← zg2]
    rfl
  · have c3 : (b).toInt = 3 := c3
    conv => whnf
    refine ⟨_, rfl, kg2, fun x7 ex7 => ?_⟩
    conv => whnf
    refine ⟨trivial, ⟨Nat.le_of_ble_eq_true rfl, Nat.le_of_ble_eq_true rfl⟩, rfl, congrArg (fun r => some (j_i r)) ?_⟩
    rw [show b.toNatClampNeg = 3 by have := j_clamp hb.1; omega, ← ex7, ← zg2]
    rfl
  · have c3 : (b).toInt = 4 := c3
    conv => whnf
    refine ⟨_, rfl, kg2, fun x8 ex8 => ?_⟩
    conv => whnf
    refine ⟨trivial, ⟨Nat.le_of_ble_eq_true rfl, Nat.le_of_ble_eq_true rfl⟩, rfl, congrArg (fun r => some (j_i r)) ?_⟩
    rw [show b.toNatClampNeg = 4 by have := j_clamp hb.1; omega, ← ex8, ← zg2]
    rfl
  · have c3 : (b).toInt = 5 := c3
    conv => whnf
    refine ⟨_, rfl, w.km, fun o9 eo => ?_⟩
    obtain rfl : o9 = some P := eo.symm.trans w.eP
    conv => whnf
    refine ⟨_, rfl, kg2, fun x10 ex10 => ?_⟩
    have hx10 : 0 ≤ x10.toInt ∧ x10.toInt ≤ 1 := by rw [← ex10]; exact feg2
    have n11 := w.nP
    conv => whnf
    refine ⟨_, _, rfl, w.kP, rfl, j_vp (by omega) (by omega), fun x12 ex12 => ?_⟩
    have vp : x12 = (z_d h m P G R Q).1 (j_pf ((z_d h m P G R Q).2.2.2.1 a.toNatClampNeg 1)) := by
      rw [d1, ex10, ← z_pmx (ρ := ρ) hx10]
      exact ex12.symm
    have v2 := V.tp ((z_d h m P G R Q).2.2.2.1 a.toNatClampNeg 1)
    rw [← vp] at v2
    conv => whnf
    refine ⟨w.km, rfl, _, _, _, _, _, _, c_Mo_earlyx w kg2 V lk zg2 v2.1, ⟨Nat.le_of_ble_eq_true rfl, Nat.le_of_ble_eq_true rfl, Nat.le_of_ble_eq_true rfl, Nat.le_of_ble_eq_true rfl⟩, fun _ _ z => False.elim z, ?_⟩
    rintro v9 h9 ⟨e9, rfl⟩
    obtain rfl : h = h9 := e9.symm
    conv => whnf
    refine ⟨trivial, ⟨Nat.le_of_ble_eq_true rfl, Nat.le_of_ble_eq_true rfl⟩, rfl, congrArg (fun r => some (j_i r)) ?_⟩
    rw [show b.toNatClampNeg = 5 by have := j_clamp hb.1; omega, vp]
    rfl
  · have c3 : (b).toInt = 6 := c3
    conv => whnf
    refine ⟨_, rfl, w.km, fun o14 eo => ?_⟩
    obtain rfl : o14 = some P := eo.symm.trans w.eP
    conv => whnf
    refine ⟨_, rfl, kg2, fun x15 ex15 => ?_⟩
    have hx15 : 0 ≤ x15.toInt ∧ x15.toInt ≤ 1 := by rw [← ex15]; exact feg2
    have n16 := w.nP
    conv => whnf
    refine ⟨_, _, rfl, w.kP, rfl, j_vp (by omega) (by omega), fun x17 ex17 => ?_⟩
    have vp : x17 = (z_d h m P G R Q).1 (j_pf ((z_d h m P G R Q).2.2.2.1 a.toNatClampNeg 1)) := by
      rw [d1, ex15, ← z_pmx (ρ := ρ) hx15]
      exact ex17.symm
    have v2 := V.tp ((z_d h m P G R Q).2.2.2.1 a.toNatClampNeg 1)
    rw [← vp] at v2
    conv => whnf
    refine ⟨w.km, rfl, _, _, _, _, _, _, c_Mo_latex w kg2 V lk zg2 v2.1, ⟨Nat.le_of_ble_eq_true rfl, Nat.le_of_ble_eq_true rfl, Nat.le_of_ble_eq_true rfl, Nat.le_of_ble_eq_true rfl⟩, fun _ _ z => False.elim z, ?_⟩
    rintro v9 h9 ⟨e9, rfl⟩
    obtain rfl : h = h9 := e9.symm
    conv => whnf
    refine ⟨trivial, ⟨Nat.le_of_ble_eq_true rfl, Nat.le_of_ble_eq_true rfl⟩, rfl, congrArg (fun r => some (j_i r)) ?_⟩
    rw [show b.toNatClampNeg = 6 by have := j_clamp hb.1; omega, vp]
    rfl
  · have c3 : (b).toInt < 0 ∨ 6 < (b).toInt := c3
    conv => whnf
    refine ⟨_, rfl, kg2, fun x19 ex19 => ?_⟩
    conv => whnf
    refine ⟨fun c20 => ?_, fun c20 => ?_⟩
    · have c20 : (x19).toInt = 0 := c20
      conv => whnf
      refine ⟨trivial, ⟨Nat.le_of_ble_eq_true rfl, Nat.le_of_ble_eq_true rfl⟩, rfl, congrArg (fun r => some (j_i r)) ?_⟩
      rw [show b.toNatClampNeg = 7 by have := j_clamp hb.1; omega]
      have r6 : (z_d h m P G R Q).2.2.2.1 a.toNatClampNeg 6 = if x19.toInt = 0 then Int32.ofInt 1 else Int32.ofInt 0 := by
        rw [← ex19, ← zg2]
        rfl
      show _ = z_b (decide (¬ ((z_d h m P G R Q).2.2.2.1 a.toNatClampNeg 6).toInt = 0))
      rw [r6, if_pos c20]
      rfl
    · have c20 : ¬ (x19).toInt = 0 := c20
      conv => whnf
      refine ⟨trivial, ⟨Nat.le_of_ble_eq_true rfl, Nat.le_of_ble_eq_true rfl⟩, rfl, congrArg (fun r => some (j_i r)) ?_⟩
      rw [show b.toNatClampNeg = 7 by have := j_clamp hb.1; omega]
      have r6 : (z_d h m P G R Q).2.2.2.1 a.toNatClampNeg 6 = if x19.toInt = 0 then Int32.ofInt 1 else Int32.ofInt 0 := by
        rw [← ex19, ← zg2]
        rfl
      show _ = z_b (decide (¬ ((z_d h m P G R Q).2.2.2.1 a.toNatClampNeg 6).toInt = 0))
      rw [r6, if_neg c20]
      rfl
