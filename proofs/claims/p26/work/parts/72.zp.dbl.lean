/-! the model's doubles: word for word -/
section DB
variable {z : j_Z} {k j : Nat}
theorem z_dbF1 (h : z_dst z k = false) : z_db z k j = false := by
  unfold z_db z_mt
  rw [h, Bool.false_and, Bool.false_and, Bool.false_and]
theorem z_dbF2 (h : z_dst z j = false) : z_db z k j = false := by
  unfold z_db z_mt
  rw [h, Bool.and_false, Bool.false_and, Bool.false_and]
theorem z_dbF3 (h : ¬ (z.2.2.2.1 j 0).toInt = (z.2.2.2.1 k 0).toInt) : z_db z k j = false := by
  unfold z_db
  rw [decide_eq_false h, Bool.and_false]
theorem z_dbF4 (h : z_ms z k j = false) : z_db z k j = false := by
  unfold z_db z_mt
  rw [h, Bool.and_false, Bool.false_and]
theorem z_dbT (h1 : z_dst z k = true) (h2 : z_dst z j = true) (h3 : (z.2.2.2.1 j 0).toInt = (z.2.2.2.1 k 0).toInt) (h4 : z_ms z k j = true) : z_db z k j = true := by
  unfold z_db z_mt
  rw [h1, h2, h4, decide_eq_true h3]
  rfl
end DB
set_option maxHeartbeats 4000000 in
set_option maxRecDepth 20000 in
theorem c_Mo_meetx {Z : j_Z} {ρ : Nat → Nat} {h : j_H} {m P G R Q : Nat} {s : Nat} {a : Int32} {b : Int32} (w : j_MX ρ h m P G R Q) (ks : j_kd h s = some (.inr 0)) (ns : (j_ln h s : Int) = 2 * (j_it h R 2).toInt) (ha : 0 ≤ a.toInt ∧ a.toInt < (j_it h R 2).toInt) (hb : 0 ≤ b.toInt ∧ b.toInt < (j_it h R 2).toInt) (hs : ∀ k : Nat, (k : Int) < (j_it h R 2).toInt → j_it h s (2 * k) = z_er Z k ∧ j_it h s (2 * k + 1) = z_lr Z k) : j_Ct 195 0 0 0 0 [j_r (some s), j_i a, j_i b] h (fun v h' => h' = h ∧ ∃ r, v = some (j_i r) ∧ (¬ r.toInt = 0 ↔ z_ms Z a.toNatClampNeg b.toNatClampNeg = false)) j_no := by
  refine j_intro km_195 (Nat.le_of_ble_eq_true rfl) ?_
  intro J hJ hF
  have wb := w.b
  have ix : ∀ v : Int32, 0 ≤ v.toInt → v.toInt < (j_it h R 2).toInt → ((Int32.ofInt (2) * v)).toNatClampNeg = 2 * v.toNatClampNeg ∧ (((Int32.ofInt (2) * v) + Int32.ofInt (1))).toNatClampNeg = 2 * v.toNatClampNeg + 1 := by
    intro v h0 h1
    have e := j_dbl (x := v) (by omega) (by omega)
    have e2 := j_dbl1 (x := v) (by omega) (by omega)
    have := j_clamp (i := Int32.ofInt (2) * v) (by omega)
    have := j_clamp (i := (Int32.ofInt (2) * v) + Int32.ofInt (1)) (by omega)
    have := j_clamp (i := v) (by omega)
    exact ⟨by omega, by omega⟩
  have sa := hs a.toNatClampNeg (by rw [j_clamp ha.1]; omega)
  have sb := hs b.toNatClampNeg (by rw [j_clamp hb.1]; omega)
  refine hJ [] 400 _ _ _ _ _ _ ?_
  conv => whnf
  refine ⟨_, _, rfl, ks, rfl, j_vp (by rw [j_dbl (by omega) (by omega)]; omega) (by rw [j_dbl (by omega) (by omega)]; omega), fun x1 ex1 => ?_⟩
  conv => whnf
  refine ⟨_, _, rfl, ks, rfl, j_vp (by rw [j_dbl1 (by omega) (by omega)]; omega) (by rw [j_dbl1 (by omega) (by omega)]; omega), fun x2 ex2 => ?_⟩
  have hx1 : x1 = z_er Z a.toNatClampNeg := by rw [← ex1, (ix a ha.1 ha.2).1]; exact sa.1
  have hx2 : x2 = z_lr Z b.toNatClampNeg := by rw [← ex2, (ix b hb.1 hb.2).2]; exact sb.2
  have u3 := j_ub x2
  have u4 := j_ub x1
  conv => whnf
  refine ⟨fun c5 => ?_, fun c5 => ?_⟩
  · have c5 : (x2).toInt < (x1).toInt := c5
    conv => whnf
    refine ⟨Or.inl rfl, ⟨Nat.le_of_ble_eq_true rfl, Nat.le_of_ble_eq_true rfl⟩, rfl, _, rfl, fun q => absurd (show (Int32.ofInt (0)).toInt = 0 by decide) q, fun q => ?_⟩
    unfold z_ms at q
    rw [← hx1, ← hx2, decide_eq_true c5, Bool.true_or] at q
    cases q
  · have c5 : ¬ (x2).toInt < (x1).toInt := c5
    conv => whnf
    refine ⟨_, _, rfl, ks, rfl, j_vp (by rw [j_dbl (by omega) (by omega)]; omega) (by rw [j_dbl (by omega) (by omega)]; omega), fun x6 ex6 => ?_⟩
    conv => whnf
    refine ⟨_, _, rfl, ks, rfl, j_vp (by rw [j_dbl1 (by omega) (by omega)]; omega) (by rw [j_dbl1 (by omega) (by omega)]; omega), fun x7 ex7 => ?_⟩
    have hx6 : x6 = z_er Z b.toNatClampNeg := by rw [← ex6, (ix b hb.1 hb.2).1]; exact sb.1
    have hx7 : x7 = z_lr Z a.toNatClampNeg := by rw [← ex7, (ix a ha.1 ha.2).2]; exact sa.2
    have u8 := j_ub x7
    have u9 := j_ub x6
    conv => whnf
    refine ⟨fun c10 => ?_, fun c10 => ?_⟩
    · have c10 : (x7).toInt < (x6).toInt := c10
      conv => whnf
      refine ⟨Or.inl rfl, ⟨Nat.le_of_ble_eq_true rfl, Nat.le_of_ble_eq_true rfl⟩, rfl, _, rfl, fun q => absurd (show (Int32.ofInt (0)).toInt = 0 by decide) q, fun q => ?_⟩
      unfold z_ms at q
      rw [← hx6, ← hx7, decide_eq_true c10, Bool.or_true] at q
      cases q
    · have c10 : ¬ (x7).toInt < (x6).toInt := c10
      conv => whnf
      refine ⟨Or.inr rfl, ⟨Nat.le_of_ble_eq_true rfl, Nat.le_of_ble_eq_true rfl⟩, rfl, _, rfl, fun _ => ?_, fun _ => by decide⟩
      unfold z_ms
      rw [← hx1, ← hx2, ← hx6, ← hx7, decide_eq_false c5, decide_eq_false c10]
      rfl
set_option maxHeartbeats 4000000 in
set_option maxRecDepth 20000 in
theorem c_Mo_doublesx {Z : j_Z} {ρ : Nat → Nat} {h : j_H} {m P G R Q : Nat} {s : Nat} (w : j_MX ρ h m P G R Q) (ks : j_kd h s = some (.inr 0)) (ns : (j_ln h s : Int) = 2 * (j_it h R 2).toInt) (e : z_eq (z_d h m P G R Q) Z) (hs : ∀ k : Nat, (k : Int) < (j_it h R 2).toInt → j_it h s (2 * k) = z_er Z k ∧ j_it h s (2 * k + 1) = z_lr Z k) : j_Ct 173 3 64 0 0 [j_r (some m), j_r (some s)] h (fun v h' => h' = h ∧ ∃ r, v = some (j_i r) ∧ r.toInt = (z_dbn Z : Int)) j_no := by
  refine j_intro km_173 (Nat.le_of_ble_eq_true rfl) ?_
  intro J hJ hF
  have wb := w.b
  have eN : (Z.1 1).toNatClampNeg = (j_it h R 2).toNatClampNeg := by rw [← e.1 1 (by decide)]; rfl
  have clN := j_clamp (i := j_it h R 2) (by omega)
  have hr : ∀ (v : Int32) (g : Nat), 0 ≤ v.toInt → v.toInt < (j_it h R 2).toInt → z_ml h R v.toNatClampNeg = g → Z.2.2.2.1 v.toNatClampNeg 6 = (if (j_it h g 6).toInt = 0 then Int32.ofInt 1 else Int32.ofInt 0) ∧ Z.2.2.2.1 v.toNatClampNeg 0 = j_it h g 0 := by
    intro v g h0 h1 hg
    have lt : z_lt (z_d h m P G R Q) 1 v.toNatClampNeg := by
      show (v.toNatClampNeg : Int) < (j_it h R 2).toInt
      rw [j_clamp h0]
      exact h1
    rw [← e.2.2.2.1 _ 6 lt (by decide), ← e.2.2.2.1 _ 0 lt (by decide), ← hg]
    exact ⟨rfl, rfl⟩
  have hst : ∀ (v : Int32) (g : Nat), 0 ≤ v.toInt → v.toInt < (j_it h R 2).toInt → z_ml h R v.toNatClampNeg = g → z_dst Z v.toNatClampNeg = decide ((j_it h g 6).toInt = 0) := by
    intro v g h0 h1 hg
    unfold z_dst
    rw [(hr v g h0 h1 hg).1]
    by_cases q : (j_it h g 6).toInt = 0
    · rw [if_pos q, decide_eq_true q]
      decide
    · rw [if_neg q, decide_eq_false q]
      decide
  have bd : ∀ v, z_sm (fun k => z_ct (z_db Z k) k) v = z_sm (fun k => z_ct (z_db Z k) k) v := fun _ => rfl
  have bd2 : ∀ v, v ≤ 20 → z_sm (fun k => z_ct (z_db Z k) k) v ≤ 400 := by
    intro v hv
    rw [z_sm_c (g := fun k => z_ct (z_db Z k) (min k 20)) v (fun k hk => by rw [show min k 20 = k by omega])]
    have := z_sm_le (f := fun k => z_ct (z_db Z k) (min k 20)) (c := 20) (fun k => Nat.le_trans (z_ct_le _) (by omega)) v
    omega
  clear bd
  refine hJ [4, 18] 400 _ _ _ _ _ _ ?_
  have L4_3 : ∀ (k : Nat) (v1 : Int32) (v2 : Int32), 0 ≤ v2.toInt → v2.toInt ≤ (j_it h R 2).toInt → v1.toInt = (z_sm (fun k => z_ct (z_db Z k) k) v2.toNatClampNeg : Int) → (2147483647 - v2.toInt) < (k : Int) → J 4 [some (j_r (some m)), some (j_r (some s)), some (j_i v1), some (j_i v2), none, none, none] [] h 0 0 := by
    intro k
    induction k with
    | zero => intro v1 v2 hn hl iv hm; exact absurd hm (by have := j_ub v2; omega)
    | succ k ihB4 =>
      intro v1 v2 hn hl iv hm
      have cl2 := j_clamp hn
      have uv1 := j_ub v1; have lv1 := j_lb v1
      have uv2 := j_ub v2; have lv2 := j_lb v2
      refine hJ [4, 18] 400 _ _ _ _ _ _ ?_
      conv => whnf
      refine ⟨_, rfl, w.km, fun o5 eo => ?_⟩
      obtain rfl : o5 = some R := eo.symm.trans w.eR
      conv => whnf
      refine ⟨w.lR.1, rfl, _, _, _, _, _, _, c_AL_size (h := h) w.lR j_Sc.rf j_sf_ok, ⟨Nat.le_of_ble_eq_true rfl, Nat.le_of_ble_eq_true rfl, Nat.le_of_ble_eq_true rfl, Nat.le_of_ble_eq_true rfl⟩, fun _ _ z => False.elim z, ?_⟩
      rintro v9 h9 ⟨e9, rfl⟩
      obtain rfl : h = h9 := e9.symm
      have u6 := j_ub v2
      conv => whnf
      refine ⟨fun c7 => ?_, fun c7 => ?_⟩
      · have c7 : ((j_it h R 2)).toInt ≤ (v2).toInt := c7
        conv => whnf
        refine ⟨trivial, ⟨Nat.le_of_ble_eq_true rfl, Nat.le_of_ble_eq_true rfl⟩, rfl, _, rfl, ?_⟩
        rw [iv, show v2.toNatClampNeg = (Z.1 1).toNatClampNeg by omega]
        rfl
      · have c7 : ¬ ((j_it h R 2)).toInt ≤ (v2).toInt := c7
        have L18_10 : ∀ (k : Nat) (v8 : Int32) (v9 : Int32), 0 ≤ v9.toInt → v9.toInt ≤ v2.toInt → v8.toInt = ((z_sm (fun k => z_ct (z_db Z k) k) v2.toNatClampNeg + z_ct (z_db Z v2.toNatClampNeg) v9.toNatClampNeg : Nat) : Int) → (2147483647 - v9.toInt) < (k : Int) → J 18 [some (j_r (some m)), some (j_r (some s)), some (j_i v8), some (j_i v2), some (j_i v9), none, none] [] h 0 0 := by
          intro k
          induction k with
          | zero => intro v8 v9 hn hl9 iw hm; exact absurd hm (by have := j_ub v9; omega)
          | succ k ihB11 =>
            intro v8 v9 hn9 hl9 iw hm9
            have cl9 := j_clamp hn9
            have uv8 := j_ub v8; have lv8 := j_lb v8
            have uv9 := j_ub v9; have lv9 := j_lb v9
            refine hJ [4, 18] 400 _ _ _ _ _ _ ?_
            have u12 := j_ub v2
            have u13 := j_ub v9
            conv => whnf
            refine ⟨fun c14 => ?_, fun c14 => ?_⟩
            · have c14 : (v2).toInt ≤ (v9).toInt := c14
              have t15 : (v2 + Int32.ofInt 1).toInt = v2.toInt + 1 := j_inc1 (by omega)
              have ct15 := j_clamp (i := v2 + Int32.ofInt 1) (by omega)
              exact j_use hF (ihB4 _ _ (by omega) (by omega) (by rw [iw, show (v2 + Int32.ofInt 1).toNatClampNeg = v2.toNatClampNeg + 1 by omega, show v9.toNatClampNeg = v2.toNatClampNeg by omega]; rfl) (by omega)) (And.intro rfl (And.intro rfl (And.intro rfl (And.intro rfl trivial))))
            · have c14 : ¬ (v2).toInt ≤ (v9).toInt := c14
              have t9 : (v9 + Int32.ofInt 1).toInt = v9.toInt + 1 := j_inc1 (by omega)
              have ct9 := j_clamp (i := v9 + Int32.ofInt 1) (by omega)
              have b9 := z_ct_le (f := z_db Z v2.toNatClampNeg) v9.toNatClampNeg
              have b2 := bd2 v2.toNatClampNeg (by omega)
              have t8 : (v8 + Int32.ofInt 1).toInt = v8.toInt + 1 := j_inc1 (by omega)
              have nx0 : z_db Z v2.toNatClampNeg v9.toNatClampNeg = false → J 18 [some (j_r (some m)), some (j_r (some s)), some (j_i (v8 + Int32.ofInt 0)), some (j_i v2), some (j_i (v9 + Int32.ofInt 1)), none, none] [] h 0 0 := fun q => ihB11 (v8 + Int32.ofInt 0) (v9 + Int32.ofInt 1) (by omega) (by omega) (by
                rw [show v8 + Int32.ofInt 0 = v8 from Int32.add_zero v8, iw, show (v9 + Int32.ofInt 1).toNatClampNeg = v9.toNatClampNeg + 1 by omega]
                show _ = ((_ + (z_ct (z_db Z v2.toNatClampNeg) v9.toNatClampNeg + (z_db Z v2.toNatClampNeg v9.toNatClampNeg).toNat) : Nat) : Int)
                rw [q]
                rfl) (by omega)
              have nx1 : z_db Z v2.toNatClampNeg v9.toNatClampNeg = true → J 18 [some (j_r (some m)), some (j_r (some s)), some (j_i (v8 + Int32.ofInt 1)), some (j_i v2), some (j_i (v9 + Int32.ofInt 1)), none, none] [] h 0 0 := fun q => ihB11 (v8 + Int32.ofInt 1) (v9 + Int32.ofInt 1) (by omega) (by omega) (by
                rw [t8, iw, show (v9 + Int32.ofInt 1).toNatClampNeg = v9.toNatClampNeg + 1 by omega]
                show _ = ((_ + (z_ct (z_db Z v2.toNatClampNeg) v9.toNatClampNeg + (z_db Z v2.toNatClampNeg v9.toNatClampNeg).toNat) : Nat) : Int)
                rw [q]
                rfl) (by omega)
              conv => whnf
              refine ⟨_, rfl, w.km, fun o16 eo => ?_⟩
              obtain rfl : o16 = some R := eo.symm.trans w.eR
              conv => whnf
              refine ⟨w.lR.1, rfl, _, _, _, _, _, _, c_AL_get (h := h) w.lR j_Sc.rf j_sf_ok (by omega) (by omega), ⟨Nat.le_of_ble_eq_true rfl, Nat.le_of_ble_eq_true rfl, Nat.le_of_ble_eq_true rfl, Nat.le_of_ble_eq_true rfl⟩, fun _ _ z => False.elim z, ?_⟩
              rintro v9 h9 ⟨e9, g17, rfl, kg17, xg17⟩
              obtain rfl : h = h9 := e9.symm
              have q17 := z_ml_get xg17
              have feg17 := w.aR.get (by omega) (by omega) xg17
              conv => whnf
              refine ⟨Or.inr ⟨_, rfl, kg17⟩, ?_⟩
              conv => whnf
              refine ⟨_, rfl, w.km, fun o18 eo => ?_⟩
              obtain rfl : o18 = some R := eo.symm.trans w.eR
              conv => whnf
              refine ⟨w.lR.1, rfl, _, _, _, _, _, _, c_AL_get (h := h) w.lR j_Sc.rf j_sf_ok (by omega) (by omega), ⟨Nat.le_of_ble_eq_true rfl, Nat.le_of_ble_eq_true rfl, Nat.le_of_ble_eq_true rfl, Nat.le_of_ble_eq_true rfl⟩, fun _ _ z => False.elim z, ?_⟩
              rintro v9 h9 ⟨e9, g19, rfl, kg19, xg19⟩
              obtain rfl : h = h9 := e9.symm
              have q19 := z_ml_get xg19
              have feg19 := w.aR.get (by omega) (by omega) xg19
              conv => whnf
              refine ⟨Or.inr ⟨_, rfl, kg19⟩, ?_⟩
              conv => whnf
              refine ⟨_, rfl, kg17, fun x20 ex20 => ?_⟩
              conv => whnf
              refine ⟨fun c21 => ?_, fun c21 => ?_⟩
              · have c21 : ¬ (x20).toInt = 0 := c21
                have t22 : (v9 + Int32.ofInt 1).toInt = v9.toInt + 1 := j_inc1 (by omega)
                exact j_use hF (nx0 (z_dbF1 ((hst v2 g17 (by omega) (by omega) q17).trans (decide_eq_false (by rw [ex20]; exact c21))))) (And.intro rfl (And.intro rfl (And.intro rfl (And.intro rfl (And.intro rfl trivial)))))
              · have c21 : ¬ ¬ (x20).toInt = 0 := c21
                conv => whnf
                refine ⟨_, rfl, kg19, fun x23 ex23 => ?_⟩
                conv => whnf
                refine ⟨fun c24 => ?_, fun c24 => ?_⟩
                · have c24 : ¬ (x23).toInt = 0 := c24
                  have t25 : (v9 + Int32.ofInt 1).toInt = v9.toInt + 1 := j_inc1 (by omega)
                  exact j_use hF (nx0 (z_dbF2 ((hst v9 g19 (by omega) (by omega) q19).trans (decide_eq_false (by rw [ex23]; exact c24))))) (And.intro rfl (And.intro rfl (And.intro rfl (And.intro rfl (And.intro rfl trivial)))))
                · have c24 : ¬ ¬ (x23).toInt = 0 := c24
                  conv => whnf
                  refine ⟨_, rfl, kg17, fun x26 ex26 => ?_⟩
                  conv => whnf
                  refine ⟨_, rfl, kg19, fun x27 ex27 => ?_⟩
                  have u28 := j_ub x27
                  have u29 := j_ub x26
                  conv => whnf
                  refine ⟨fun c30 => ?_, fun c30 => ?_⟩
                  · have c30 : ¬ (x26).toInt = (x27).toInt := c30
                    have t31 : (v9 + Int32.ofInt 1).toInt = v9.toInt + 1 := j_inc1 (by omega)
                    exact j_use hF (nx0 (z_dbF3 (by rw [(hr v2 g17 (by omega) (by omega) q17).2, (hr v9 g19 (by omega) (by omega) q19).2, ex26, ex27]; exact fun q => c30 q.symm))) (And.intro rfl (And.intro rfl (And.intro rfl (And.intro rfl (And.intro rfl trivial)))))
                  · have c30 : ¬ ¬ (x26).toInt = (x27).toInt := c30
                    conv => whnf
                    refine ⟨rfl, _, _, _, _, _, _, c_Mo_meetx w ks (by omega) ⟨by omega, by omega⟩ ⟨by omega, by omega⟩ hs, ⟨Nat.le_of_ble_eq_true rfl, Nat.le_of_ble_eq_true rfl, Nat.le_of_ble_eq_true rfl, Nat.le_of_ble_eq_true rfl⟩, fun _ _ z => False.elim z, ?_⟩
                    rintro v9 h9 ⟨e9, r32, rfl, zr32⟩
                    obtain rfl : h = h9 := e9.symm
                    conv => whnf
                    refine ⟨fun c33 => ?_, fun c33 => ?_⟩
                    · have c33 : ¬ (r32).toInt = 0 := c33
                      have t34 : (v9 + Int32.ofInt 1).toInt = v9.toInt + 1 := j_inc1 (by omega)
                      exact j_use hF (nx0 (z_dbF4 (zr32.mp c33))) (And.intro rfl (And.intro rfl (And.intro rfl (And.intro rfl (And.intro rfl trivial)))))
                    · have c33 : ¬ ¬ (r32).toInt = 0 := c33
                      have t35 : (v9 + Int32.ofInt 1).toInt = v9.toInt + 1 := j_inc1 (by omega)
                      exact j_use hF (nx1 (z_dbT ((hst v2 g17 (by omega) (by omega) q17).trans (decide_eq_true (by rw [ex20]; exact Decidable.not_not.mp c21))) ((hst v9 g19 (by omega) (by omega) q19).trans (decide_eq_true (by rw [ex23]; exact Decidable.not_not.mp c24))) (by rw [(hr v2 g17 (by omega) (by omega) q17).2, (hr v9 g19 (by omega) (by omega) q19).2, ex26, ex27]; exact (Decidable.not_not.mp c30).symm) (by cases q : z_ms Z v2.toNatClampNeg v9.toNatClampNeg with | true => rfl | false => exact absurd (zr32.mpr q) c33))) (And.intro rfl (And.intro rfl (And.intro rfl (And.intro rfl (And.intro rfl trivial)))))
        have q36 : (Int32.ofInt (0)).toInt = 0 := by decide
        have qc36 := j_clamp (i := Int32.ofInt 0) (by omega)
        exact j_use hF (L18_10 4294967296 _ _ (by omega) (by omega) (by rw [show (Int32.ofInt 0).toNatClampNeg = 0 by omega]; exact iv) (by omega)) (And.intro rfl (And.intro rfl (And.intro rfl (And.intro rfl (And.intro rfl trivial)))))
  have q37 : (Int32.ofInt (0)).toInt = 0 := by decide
  have qc37 := j_clamp (i := Int32.ofInt 0) (by omega)
  exact j_use hF (L4_3 4294967296 _ _ (by omega) (by omega) (by rw [show (Int32.ofInt 0).toNatClampNeg = 0 by omega]; exact q37) (by omega)) (And.intro rfl (And.intro rfl (And.intro rfl (And.intro rfl trivial))))
