/-! the model's fewest: word for word -/
/-- thrown and the sum are as they were -/
def z_th (m : Nat) (h h' : j_H) : Prop := j_it h' m 0 = j_it h m 0 ∧ j_lg h' m 7 = j_lg h m 7
theorem z_th.rf {m : Nat} {h : j_H} : z_th m h h := ⟨rfl, rfl⟩
theorem z_th.trans {m : Nat} {a b c : j_H} (y : z_th m b c) (x : z_th m a b) : z_th m a c := ⟨y.1.trans x.1, y.2.trans x.2⟩
theorem z_th.nw {m b n : Nat} {h : j_H} {k : Nat ⊕ Nat} (ne : ¬ m = b) : z_th m h (j_nw h b k n) := ⟨if_neg ne, if_neg ne⟩
theorem z_th.ui {h : j_H} {m e k : Nat} {x : Int32} {s : Nat ⊕ Nat} (km : j_kd h m = some (.inl 12)) (ke : j_kd h e = some s) (hs : s ≠ .inl 12) : z_th m h (j_ui h e k x) := ⟨j_t0i km ke hs, rfl⟩
theorem z_th.up {h : j_H} {m q k : Nat} {v : j_V} (ne : m ≠ q) : z_th m h (j_up h q k v) := ⟨(j_up_ne h v ne 0).1, (j_up_ne h v ne 7).2.1⟩
section CX
variable {z : j_Z} {m i j : Nat}
theorem z_cxE (h : ¬ (z_gL z j).toInt < (z_gE z i).toInt) : z_cx z m i j = false := by
  unfold z_cx
  rw [decide_eq_false h, Bool.and_false]
theorem z_cxB (h : i ≠ j) (h1 : ¬ (z.2.2.1 j 0).toInt < (z.2.2.1 i 0).toInt) : z_cx z m i j = false := by
  unfold z_cx
  rw [decide_eq_false h, decide_eq_false h1, Bool.and_false, Bool.or_false, Bool.false_and]
theorem z_cxS (h : i = j) (h1 : (z_gL z j).toInt < (z_gE z i).toInt) : z_cx z m i j = true := by
  unfold z_cx
  rw [decide_eq_true h, decide_eq_true h1, Bool.true_or, Bool.true_and]
theorem z_cxU (h : j < m) (h2 : (z.2.2.1 j 0).toInt < (z.2.2.1 i 0).toInt) (h1 : (z_gL z j).toInt < (z_gE z i).toInt) : z_cx z m i j = true := by
  unfold z_cx
  rw [decide_eq_true h, decide_eq_true h1, decide_eq_true h2, Bool.and_true, Bool.and_true, Bool.or_true]
end CX
theorem z_srF {a v : Int32} (h0 : 0 ≤ v.toInt) (h1 : v.toInt ≤ 31) (h : ¬ ((a >>> (v &&& 31)) &&& Int32.ofInt 1).toInt = (Int32.ofInt 1).toInt) : z_bq a v.toNatClampNeg = false := by
  cases b : z_bq a v.toNatClampNeg with
  | false => rfl
  | true => exact absurd ((z_sr1 h0 h1 b).trans (by decide)) h
theorem z_srT {a v : Int32} (h0 : 0 ≤ v.toInt) (h1 : v.toInt ≤ 31) (h : ¬ ((a >>> (v &&& 31)) &&& Int32.ofInt 1).toInt = 0) : z_bq a v.toNatClampNeg = true := by
  cases b : z_bq a v.toNatClampNeg with
  | true => rfl
  | false => exact absurd (z_sr0 h0 h1 b) h
set_option maxHeartbeats 4000000 in
set_option maxRecDepth 20000 in
theorem c_Mo_agreex {Z : j_Z} {ρ : Nat → Nat} {h : j_H} {m P G R Q : Nat} {y : Nat} {z : Nat} {a : Int32} (w : j_MX ρ h m P G R Q) (ky : j_kd h y = some (.inr 0)) (ny : (j_ln h y : Int) = (j_it h G 2).toInt) (kz : j_kd h z = some (.inr 0)) (nz : (j_ln h z : Int) = (j_it h G 2).toInt) (e : z_eq (z_d h m P G R Q) Z) (hy : ∀ k : Nat, (k : Int) < (j_it h G 2).toInt → j_it h y k = z_gE Z k) (hz : ∀ k : Nat, (k : Int) < (j_it h G 2).toInt → j_it h z k = z_gL Z k) : j_Ct 168 3 64 0 0 [j_r (some m), j_r (some y), j_r (some z), j_i a] h (fun v h' => h' = h ∧ ∃ r, v = some (j_i r) ∧ (¬ r.toInt = 0 ↔ z_ag Z a)) j_no := by
  refine j_intro km_168 (Nat.le_of_ble_eq_true rfl) ?_
  intro J hJ hF
  have wb := w.b
  have eN0 : j_it h G 2 = Z.1 0 := e.1 0 (by decide)
  have eN : (z_n0 Z : Int) = (j_it h G 2).toInt := by
    unfold z_n0
    rw [← eN0]
    exact j_clamp (by omega)
  have bed : ∀ (v : Int32) (g : Nat), 0 ≤ v.toInt → v.toInt < (j_it h G 2).toInt → z_ml h G v.toNatClampNeg = g → Z.2.2.1 v.toNatClampNeg 0 = j_it h g 5 := by
    intro v g h0 h1 hg
    have lt : z_lt (z_d h m P G R Q) 0 v.toNatClampNeg := by
      show (v.toNatClampNeg : Int) < (j_it h G 2).toInt
      rw [j_clamp h0]
      exact h1
    rw [← e.2.2.1 _ 0 lt (by decide), ← hg]
    rfl
  refine hJ [3, 26] 400 _ _ _ _ _ _ ?_
  have L3_2 : ∀ (k : Nat) (v1 : Int32), 0 ≤ v1.toInt → v1.toInt ≤ (j_ln h y : Int) → (∀ i j, i < v1.toNatClampNeg → j < z_n0 Z → z_bq a i = false → z_bq a j = false → z_cx Z (z_n0 Z) i j = false) → (2147483647 - v1.toInt) < (k : Int) → J 3 [some (j_r (some m)), some (j_r (some y)), some (j_r (some z)), some (j_i a), some (j_i v1), none, none] [] h 0 0 := by
    intro k
    induction k with
    | zero => intro v1 hn hl iv hm; exact absurd hm (by have := j_ub v1; omega)
    | succ k ihB3 =>
      intro v1 hn hl iv hm
      have uv1 := j_ub v1; have lv1 := j_lb v1
      have cl1 := j_clamp hn
      refine hJ [3, 26] 400 _ _ _ _ _ _ ?_
      conv => whnf
      refine ⟨_, _, rfl, ky, ?_⟩
      have nl4 : (nI (j_ln h y)).toInt = (j_ln h y : Int) := nI_toInt (by omega)
      have u5 := j_ub v1
      conv => whnf
      refine ⟨fun c6 => ?_, fun c6 => ?_⟩
      · have c6 : (nI (j_ln h y)).toInt ≤ (v1).toInt := c6
        conv => whnf
        exact ⟨Or.inr rfl, ⟨Nat.le_of_ble_eq_true rfl, Nat.le_of_ble_eq_true rfl⟩, rfl, _, rfl, fun _ i j hi hj => iv i j (by omega) hj, fun _ => by decide⟩
      · have c6 : ¬ (nI (j_ln h y)).toInt ≤ (v1).toInt := c6
        have q7 : (Int32.ofInt (1)).toInt = 1 := by decide
        have t1 : (v1 + Int32.ofInt 1).toInt = v1.toInt + 1 := j_inc1 (by omega)
        have ct1 := j_clamp (i := v1 + Int32.ofInt 1) (by omega)
        have nx1 : (∀ j, j < z_n0 Z → z_bq a v1.toNatClampNeg = false → z_bq a j = false → z_cx Z (z_n0 Z) v1.toNatClampNeg j = false) → J 3 [some (j_r (some m)), some (j_r (some y)), some (j_r (some z)), some (j_i a), some (j_i (v1 + Int32.ofInt 1)), none, none] [] h 0 0 := fun q => ihB3 (v1 + Int32.ofInt 1) (by omega) (by omega) (fun i j hi hj bi bj => by
          by_cases hv : i = v1.toNatClampNeg
          · subst hv
            exact q j hj bi bj
          · exact iv i j (by omega) hj bi bj) (by omega)
        conv => whnf
        refine ⟨fun c8 => ?_, fun c8 => ?_⟩
        · have c8 : ¬ (((a >>> (v1 &&& 31)) &&& Int32.ofInt (1))).toInt = (Int32.ofInt (1)).toInt := c8
          have bf1 := z_srF (a := a) hn (by omega) c8
          have L26_10 : ∀ (k : Nat) (v9 : Int32), 0 ≤ v9.toInt → v9.toInt ≤ (j_ln h y : Int) → (∀ j, j < v9.toNatClampNeg → z_bq a j = false → z_cx Z (z_n0 Z) v1.toNatClampNeg j = false) → (2147483647 - v9.toInt) < (k : Int) → J 26 [some (j_r (some m)), some (j_r (some y)), some (j_r (some z)), some (j_i a), some (j_i v1), some (j_i v9), none] [] h 0 0 := by
            intro k
            induction k with
            | zero => intro v9 hn hl9 iw hm; exact absurd hm (by have := j_ub v9; omega)
            | succ k ihB11 =>
              intro v9 hn9 hl9 iw hm9
              have uv9 := j_ub v9; have lv9 := j_lb v9
              have cl9 := j_clamp hn9
              refine hJ [3, 26] 400 _ _ _ _ _ _ ?_
              conv => whnf
              refine ⟨_, _, rfl, ky, ?_⟩
              have nl12 : (nI (j_ln h y)).toInt = (j_ln h y : Int) := nI_toInt (by omega)
              have u13 := j_ub v9
              conv => whnf
              refine ⟨fun c14 => ?_, fun c14 => ?_⟩
              · have c14 : (nI (j_ln h y)).toInt ≤ (v9).toInt := c14
                exact j_use hF (nx1 (fun j hj _ bj => iw j (by omega) bj)) (And.intro rfl (And.intro rfl (And.intro rfl (And.intro rfl (And.intro rfl trivial)))))
              · have c14 : ¬ (nI (j_ln h y)).toInt ≤ (v9).toInt := c14
                have t9 : (v9 + Int32.ofInt 1).toInt = v9.toInt + 1 := j_inc1 (by omega)
                have ct9 := j_clamp (i := v9 + Int32.ofInt 1) (by omega)
                have nx9 : (z_bq a v9.toNatClampNeg = false → z_cx Z (z_n0 Z) v1.toNatClampNeg v9.toNatClampNeg = false) → J 26 [some (j_r (some m)), some (j_r (some y)), some (j_r (some z)), some (j_i a), some (j_i v1), some (j_i (v9 + Int32.ofInt 1)), none] [] h 0 0 := fun q => ihB11 (v9 + Int32.ofInt 1) (by omega) (by omega) (fun j hj bj => by
                  by_cases hv : j = v9.toNatClampNeg
                  · subst hv
                    exact q bj
                  · exact iw j (by omega) bj) (by omega)
                have u16 := j_ub v9
                have u17 := j_ub v1
                conv => whnf
                refine ⟨fun c18 => ?_, fun c18 => ?_⟩
                · have c18 : (v1).toInt = (v9).toInt := c18
                  have e19 : v1.toNatClampNeg = v9.toNatClampNeg := by omega
                  conv => whnf
                  refine ⟨fun c19 => ?_, fun c19 => ?_⟩
                  · have c19 : ¬ (((a >>> (v9 &&& 31)) &&& Int32.ofInt (1))).toInt = 0 := c19
                    have bt := z_srT (a := a) hn9 (by omega) c19
                    exact j_use hF (nx9 (fun q => by rw [bt] at q; cases q)) (And.intro rfl (And.intro rfl (And.intro rfl (And.intro rfl (And.intro rfl (And.intro rfl trivial))))))
                  · have c19 : ¬ ¬ (((a >>> (v9 &&& 31)) &&& Int32.ofInt (1))).toInt = 0 := c19
                    conv => whnf
                    refine ⟨fun c => absurd (show (Int32.ofInt (1)).toInt = 0 from c) (by decide), fun _ => ?_⟩
                    conv => whnf
                    refine ⟨_, _, rfl, ky, rfl, j_vp (by omega) (by omega), fun x21 ex21 => ?_⟩
                    conv => whnf
                    refine ⟨_, _, rfl, kz, rfl, j_vp (by omega) (by omega), fun x22 ex22 => ?_⟩
                    have hE : x21 = z_gE Z v1.toNatClampNeg := by rw [← ex21]; exact hy _ (by omega)
                    have hL : x22 = z_gL Z v9.toNatClampNeg := by rw [← ex22]; exact hz _ (by omega)
                    have u23 := j_ub x22
                    have u24 := j_ub x21
                    conv => whnf
                    refine ⟨fun c25 => ?_, fun c25 => ?_⟩
                    · have c25 : (x21).toInt ≤ (x22).toInt := c25
                      rw [hE, hL] at c25
                      exact j_use hF (nx9 (fun _ => z_cxE (by omega))) (And.intro rfl (And.intro rfl (And.intro rfl (And.intro rfl (And.intro rfl (And.intro rfl trivial))))))
                    · have c25 : ¬ (x21).toInt ≤ (x22).toInt := c25
                      conv => whnf
                      refine ⟨Or.inl rfl, ⟨Nat.le_of_ble_eq_true rfl, Nat.le_of_ble_eq_true rfl⟩, rfl, _, rfl, fun q => absurd (show (Int32.ofInt (0)).toInt = 0 by decide) q, fun q => ?_⟩
                      rw [hE, hL] at c25
                      have bf : z_bq a v9.toNatClampNeg = false := by
                        cases b : z_bq a v9.toNatClampNeg with
                        | false => rfl
                        | true => exact absurd (z_sr1 (a := a) hn9 (by omega) b) (fun q1 => c19 (fun q0 => by rw [q0] at q1; exact absurd q1 (by decide)))
                      have := q v1.toNatClampNeg v9.toNatClampNeg (by omega) (by omega) bf1 bf
                      rw [z_cxS e19 (by omega)] at this
                      cases this
                · have c18 : ¬ (v1).toInt = (v9).toInt := c18
                  have e19 : v1.toNatClampNeg ≠ v9.toNatClampNeg := by omega
                  conv => whnf
                  refine ⟨_, rfl, w.km, fun o27 eo => ?_⟩
                  obtain rfl : o27 = some G := eo.symm.trans w.eG
                  conv => whnf
                  refine ⟨w.lG.1, rfl, _, _, _, _, _, _, c_AL_get (h := h) w.lG j_Sc.rf j_sf_ok (by omega) (by omega), ⟨Nat.le_of_ble_eq_true rfl, Nat.le_of_ble_eq_true rfl, Nat.le_of_ble_eq_true rfl, Nat.le_of_ble_eq_true rfl⟩, fun _ _ z => False.elim z, ?_⟩
                  rintro v9 h9 ⟨e9, g28, rfl, kg28, xg28⟩
                  obtain rfl : h = h9 := e9.symm
                  have feg28 := w.aG.get (by omega) (by omega) xg28
                  conv => whnf
                  refine ⟨Or.inr ⟨_, rfl, kg28⟩, ?_⟩
                  conv => whnf
                  refine ⟨_, rfl, kg28, fun x29 ex29 => ?_⟩
                  conv => whnf
                  refine ⟨_, rfl, w.km, fun o30 eo => ?_⟩
                  obtain rfl : o30 = some G := eo.symm.trans w.eG
                  conv => whnf
                  refine ⟨w.lG.1, rfl, _, _, _, _, _, _, c_AL_get (h := h) w.lG j_Sc.rf j_sf_ok (by omega) (by omega), ⟨Nat.le_of_ble_eq_true rfl, Nat.le_of_ble_eq_true rfl, Nat.le_of_ble_eq_true rfl, Nat.le_of_ble_eq_true rfl⟩, fun _ _ z => False.elim z, ?_⟩
                  rintro v9 h9 ⟨e9, g31, rfl, kg31, xg31⟩
                  obtain rfl : h = h9 := e9.symm
                  have feg31 := w.aG.get (by omega) (by omega) xg31
                  conv => whnf
                  refine ⟨Or.inr ⟨_, rfl, kg31⟩, ?_⟩
                  conv => whnf
                  refine ⟨_, rfl, kg31, fun x32 ex32 => ?_⟩
                  have hx29 : x29 = Z.2.2.1 v1.toNatClampNeg 0 := by rw [bed _ g28 (by omega) (by omega) (z_ml_get xg28)]; exact ex29.symm
                  have hx32 : x32 = Z.2.2.1 v9.toNatClampNeg 0 := by rw [bed _ g31 (by omega) (by omega) (z_ml_get xg31)]; exact ex32.symm
                  have u33 := j_ub x32
                  have u34 := j_ub x29
                  conv => whnf
                  refine ⟨fun c35 => ?_, fun c35 => ?_⟩
                  · have c35 : (x29).toInt ≤ (x32).toInt := c35
                    have hb1 : ¬ (Z.2.2.1 v9.toNatClampNeg 0).toInt < (Z.2.2.1 v1.toNatClampNeg 0).toInt := by rw [← hx29, ← hx32]; omega
                    conv => whnf
                    refine ⟨fun c36 => ?_, fun c36 => ?_⟩
                    · have c36 : ¬ (((a >>> (v9 &&& 31)) &&& Int32.ofInt (1))).toInt = 0 := c36
                      have bt := z_srT (a := a) hn9 (by omega) c36
                      exact j_use hF (nx9 (fun q => by rw [bt] at q; cases q)) (And.intro rfl (And.intro rfl (And.intro rfl (And.intro rfl (And.intro rfl (And.intro rfl trivial))))))
                    · have c36 : ¬ ¬ (((a >>> (v9 &&& 31)) &&& Int32.ofInt (1))).toInt = 0 := c36
                      conv => whnf
                      refine ⟨fun _ => ?_, fun c => absurd (show (Int32.ofInt (0)).toInt = 0 by decide) (show ¬ (Int32.ofInt (0)).toInt = 0 from c)⟩
                      exact j_use hF (nx9 (fun _ => z_cxB e19 hb1)) (And.intro rfl (And.intro rfl (And.intro rfl (And.intro rfl (And.intro rfl (And.intro rfl trivial))))))
                  · have c35 : ¬ (x29).toInt ≤ (x32).toInt := c35
                    have hb2 : (Z.2.2.1 v9.toNatClampNeg 0).toInt < (Z.2.2.1 v1.toNatClampNeg 0).toInt := by rw [← hx29, ← hx32]; omega
                    conv => whnf
                    refine ⟨fun c39 => ?_, fun c39 => ?_⟩
                    · have c39 : ¬ (((a >>> (v9 &&& 31)) &&& Int32.ofInt (1))).toInt = 0 := c39
                      have bt := z_srT (a := a) hn9 (by omega) c39
                      exact j_use hF (nx9 (fun q => by rw [bt] at q; cases q)) (And.intro rfl (And.intro rfl (And.intro rfl (And.intro rfl (And.intro rfl (And.intro rfl trivial))))))
                    · have c39 : ¬ ¬ (((a >>> (v9 &&& 31)) &&& Int32.ofInt (1))).toInt = 0 := c39
                      conv => whnf
                      refine ⟨fun c => absurd (show (Int32.ofInt (1)).toInt = 0 from c) (by decide), fun _ => ?_⟩
                      conv => whnf
                      refine ⟨_, _, rfl, ky, rfl, j_vp (by omega) (by omega), fun x41 ex41 => ?_⟩
                      conv => whnf
                      refine ⟨_, _, rfl, kz, rfl, j_vp (by omega) (by omega), fun x42 ex42 => ?_⟩
                      have hE : x41 = z_gE Z v1.toNatClampNeg := by rw [← ex41]; exact hy _ (by omega)
                      have hL : x42 = z_gL Z v9.toNatClampNeg := by rw [← ex42]; exact hz _ (by omega)
                      have u43 := j_ub x42
                      have u44 := j_ub x41
                      conv => whnf
                      refine ⟨fun c45 => ?_, fun c45 => ?_⟩
                      · have c45 : (x41).toInt ≤ (x42).toInt := c45
                        rw [hE, hL] at c45
                        exact j_use hF (nx9 (fun _ => z_cxE (by omega))) (And.intro rfl (And.intro rfl (And.intro rfl (And.intro rfl (And.intro rfl (And.intro rfl trivial))))))
                      · have c45 : ¬ (x41).toInt ≤ (x42).toInt := c45
                        conv => whnf
                        refine ⟨Or.inl rfl, ⟨Nat.le_of_ble_eq_true rfl, Nat.le_of_ble_eq_true rfl⟩, rfl, _, rfl, fun q => absurd (show (Int32.ofInt (0)).toInt = 0 by decide) q, fun q => ?_⟩
                        rw [hE, hL] at c45
                        have bf : z_bq a v9.toNatClampNeg = false := by
                          cases b : z_bq a v9.toNatClampNeg with
                          | false => rfl
                          | true => exact absurd (z_sr1 (a := a) hn9 (by omega) b) (fun q1 => c39 (fun q0 => by rw [q0] at q1; exact absurd q1 (by decide)))
                        have := q v1.toNatClampNeg v9.toNatClampNeg (by omega) (by omega) bf1 bf
                        rw [z_cxU (by omega) hb2 (by omega)] at this
                        cases this
          have q47 : (Int32.ofInt (0)).toInt = 0 := by decide
          have qc47 := j_clamp (i := Int32.ofInt 0) (by omega)
          exact j_use hF (L26_10 4294967296 _ (by omega) (by omega) (fun j hj => absurd hj (by omega)) (by omega)) (And.intro rfl (And.intro rfl (And.intro rfl (And.intro rfl (And.intro rfl (And.intro rfl trivial))))))
        · have c8 : ¬ ¬ (((a >>> (v1 &&& 31)) &&& Int32.ofInt (1))).toInt = (Int32.ofInt (1)).toInt := c8
          exact j_use hF (nx1 (fun j _ q => absurd (fun q1 => by have := z_sr0 (a := a) hn (by omega) q; rw [this] at q1; exact absurd q1 (by decide)) c8)) (And.intro rfl (And.intro rfl (And.intro rfl (And.intro rfl (And.intro rfl trivial)))))
  have q49 : (Int32.ofInt (0)).toInt = 0 := by decide
  have qc49 := j_clamp (i := Int32.ofInt 0) (by omega)
  exact j_use hF (L3_2 4294967296 _ (by omega) (by omega) (fun i j hi => absurd hi (by omega)) (by omega)) (And.intro rfl (And.intro rfl (And.intro rfl (And.intro rfl (And.intro rfl trivial)))))
set_option maxHeartbeats 4000000 in
set_option maxRecDepth 20000 in
theorem c_Mo_fewestNowx {Z : j_Z} {ρ : Nat → Nat} {h : j_H} {m P G R Q : Nat} {s : Nat} (w : j_MX ρ h m P G R Q) (ks : j_kd h s = some (.inr 0)) (ns : (j_ln h s : Int) = 2 * (j_it h R 2).toInt) (e : z_eq (z_d h m P G R Q) Z) (hs : ∀ k : Nat, (k : Int) < (j_it h R 2).toInt → j_it h s (2 * k) = z_er Z k ∧ j_it h s (2 * k + 1) = z_lr Z k) : j_Ct 179 5 113 2 16 [j_r (some m), j_r (some s)] h (fun v h' => (j_Mf ρ m h h' ∧ z_th m h h' ∧ ∀ q j, j_kd h q = some (.inr 0) → j_it h' q j = j_it h q j) ∧ v = some (j_i (z_fw Z))) j_no := by
  refine j_intro km_179 (Nat.le_of_ble_eq_true rfl) ?_
  intro J hJ hF
  have wb := w.b
  have eN0 : j_it h G 2 = Z.1 0 := e.1 0 (by decide)
  have n0 : 0 ≤ (Z.1 0).toInt := by rw [← eN0]; omega
  have n8 : (Z.1 0).toInt ≤ 8 := by rw [← eN0]; omega
  have eNI := congrArg Int32.toInt eN0
  obtain ⟨al0, al1, al2⟩ := z_al_b n0 n8
  have cal := j_clamp al0
  refine hJ [23, 71] 400 _ _ _ _ _ _ ?_
  conv => whnf
  refine ⟨_, rfl, w.km, fun o1 eo => ?_⟩
  obtain rfl : o1 = some G := eo.symm.trans w.eG
  conv => whnf
  refine ⟨w.lG.1, rfl, _, _, _, _, _, _, c_AL_size (h := h) w.lG j_Sc.rf j_sf_ok, ⟨Nat.le_of_ble_eq_true rfl, Nat.le_of_ble_eq_true rfl, by (try dsimp only); omega, by (try dsimp only); omega⟩, fun _ _ z => False.elim z, ?_⟩
  rintro v9 h9 ⟨e9, rfl⟩
  obtain rfl : h = h9 := e9.symm
  conv => whnf
  have clb2 := j_clamp (i := (j_it h G 2)) (by omega)
  refine ⟨⟨fun z => absurd (j_l0.mp z) (by omega), by omega⟩, ⟨by (try dsimp only); omega, by (try dsimp only); omega⟩, fun b2 hbb2 => ?_⟩
  show j_go _ _ _ _ _ _ _ _ _ _ (j_nw h b2 (.inr 0) ((j_it h G 2)).toNatClampNeg) _ _
  have st3 : j_Mf ρ m h (j_nw h b2 (.inr 0) ((j_it h G 2)).toNatClampNeg) := j_Mf.nw w.km hbb2 (fun _ z => nomatch z)
  have kb2 : j_kd (j_nw h b2 (.inr 0) ((j_it h G 2)).toNatClampNeg) b2 = some (.inr 0) := if_pos rfl
  have nb2 : j_ln (j_nw h b2 (.inr 0) ((j_it h G 2)).toNatClampNeg) b2 = ((j_it h G 2)).toNatClampNeg := if_pos rfl
  have rb2 := w.rz b2 hbb2
  have tH3 : z_th m h (j_nw h b2 (.inr 0) ((j_it h G 2)).toNatClampNeg) := z_th.nw (fun z => by have := w.km; rw [z, hbb2] at this; cases this)
  have nq2 : ∀ q, j_kd h q = some (.inr 0) → q ≠ b2 := fun q kq z => by rw [z, hbb2] at kq; cases kq
  have sH3 : ∀ q j, j_kd h q = some (.inr 0) → j_it (j_nw h b2 (.inr 0) ((j_it h G 2)).toNatClampNeg) q j = j_it h q j := fun q j kq => if_neg (nq2 q kq)
  generalize j_nw h b2 (.inr 0) ((j_it h G 2)).toNatClampNeg = H3 at st3 kb2 nb2 tH3 sH3 ⊢
  have zG4 := congrArg Int32.toInt (st3.sz w.lG.1)
  have zR4 := congrArg Int32.toInt (st3.sz w.lR.1)
  have zQ4 := congrArg Int32.toInt (st3.sz w.lQ.1)
  have n4_s := st3.ln ks
  have k4_s := st3.kd ks
  have w4 := w.f st3
  have f4_0 := (j_Mf.rf : j_Mf ρ m h h).tr st3
  conv => whnf
  refine ⟨_, rfl, w4.km, fun o5 eo => ?_⟩
  obtain rfl : o5 = some G := eo.symm.trans w4.eG
  conv => whnf
  refine ⟨w4.lG.1, rfl, _, _, _, _, _, _, c_AL_size (h := H3) w4.lG j_Sc.rf j_sf_ok, ⟨Nat.le_of_ble_eq_true rfl, Nat.le_of_ble_eq_true rfl, by (try dsimp only); omega, by (try dsimp only); omega⟩, fun _ _ z => False.elim z, ?_⟩
  rintro v9 h9 ⟨e9, rfl⟩
  obtain rfl : H3 = h9 := e9.symm
  conv => whnf
  have clb6 := j_clamp (i := (j_it H3 G 2)) (by omega)
  refine ⟨⟨fun z => absurd (j_l0.mp z) (by omega), by omega⟩, ⟨by (try dsimp only); omega, by (try dsimp only); omega⟩, fun b6 hbb6 => ?_⟩
  show j_go _ _ _ _ _ _ _ _ _ _ (j_nw H3 b6 (.inr 0) ((j_it H3 G 2)).toNatClampNeg) _ _
  have st7 : j_Mf ρ m H3 (j_nw H3 b6 (.inr 0) ((j_it H3 G 2)).toNatClampNeg) := j_Mf.nw w4.km hbb6 (fun _ z => nomatch z)
  have kb6 : j_kd (j_nw H3 b6 (.inr 0) ((j_it H3 G 2)).toNatClampNeg) b6 = some (.inr 0) := if_pos rfl
  have nb6 : j_ln (j_nw H3 b6 (.inr 0) ((j_it H3 G 2)).toNatClampNeg) b6 = ((j_it H3 G 2)).toNatClampNeg := if_pos rfl
  have rb6 := w4.rz b6 hbb6
  have nq6 : ∀ q, j_kd h q = some (.inr 0) → q ≠ b6 := fun q kq z => by have k4 := st3.kd kq; rw [z, hbb6] at k4; cases k4
  have ne26 : b2 ≠ b6 := fun z => by rw [z, hbb6] at kb2; cases kb2
  have tH7 : z_th m h (j_nw H3 b6 (.inr 0) ((j_it H3 G 2)).toNatClampNeg) := (z_th.nw (fun z => by have := w4.km; rw [z, hbb6] at this; cases this)).trans tH3
  have sH7 : ∀ q j, j_kd h q = some (.inr 0) → j_it (j_nw H3 b6 (.inr 0) ((j_it H3 G 2)).toNatClampNeg) q j = j_it h q j := fun q j kq => (if_neg (nq6 q kq)).trans (sH3 q j kq)
  generalize j_nw H3 b6 (.inr 0) ((j_it H3 G 2)).toNatClampNeg = H7 at st7 kb6 nb6 tH7 sH7 ⊢
  have zG8 := congrArg Int32.toInt (st7.sz w4.lG.1)
  have zR8 := congrArg Int32.toInt (st7.sz w4.lR.1)
  have zQ8 := congrArg Int32.toInt (st7.sz w4.lQ.1)
  have n8_s := st7.ln k4_s
  have k8_s := st7.kd k4_s
  have n8_b2 := st7.ln kb2
  have k8_b2 := st7.kd kb2
  have w8 := w4.f st7
  have f8_0 := f4_0.tr st7
  have L23_10 : ∀ (k : Nat) (v9 : Int32) (H12 : j_H) (cn sn : Nat), j_Mf ρ m H7 H12 → z_th m h H12 → (∀ q j, j_kd h q = some (.inr 0) → j_it H12 q j = j_it h q j) → (∀ k, k < v9.toNatClampNeg → j_it H12 b2 k = z_gE Z k ∧ j_it H12 b6 k = z_gL Z k) → cn ≤ 2 → sn ≤ 16 → 0 ≤ v9.toInt → v9.toInt ≤ (Z.1 0).toInt → (2147483647 - v9.toInt) < (k : Int) → J 23 [some (j_r (some m)), some (j_r (some s)), some (j_r (some b2)), some (j_r (some b6)), some (j_i v9), none] [] H12 cn sn := by
    intro k
    induction k with
    | zero => intro v9 H12 cn sn sbB11 tH12 sI vI hcn hsn hn hl hm; exact absurd hm (by have := j_ub v9; omega)
    | succ k ihB11 =>
      intro v9 H12 cn sn sbB11 tH12 sI vI hcn hsn hn hl hm
      have cl9 := j_clamp hn
      have uv9 := j_ub v9; have lv9 := j_lb v9
      have zG13 := congrArg Int32.toInt (sbB11.sz w8.lG.1)
      have zR13 := congrArg Int32.toInt (sbB11.sz w8.lR.1)
      have zQ13 := congrArg Int32.toInt (sbB11.sz w8.lQ.1)
      have n13_s := sbB11.ln k8_s
      have k13_s := sbB11.kd k8_s
      have n13_b2 := sbB11.ln k8_b2
      have k13_b2 := sbB11.kd k8_b2
      have n13_b6 := sbB11.ln kb6
      have k13_b6 := sbB11.kd kb6
      have w13 := w8.f sbB11
      have f13_0 := f8_0.tr sbB11
      have e13 : z_eq (z_d H12 m P G R Q) Z := (z_mfd w f13_0).tr e
      refine hJ [23, 71] 400 _ _ _ _ _ _ ?_
      conv => whnf
      refine ⟨_, _, rfl, k13_b2, ?_⟩
      have nl14 : (nI (j_ln H12 b2)).toInt = (j_ln H12 b2 : Int) := nI_toInt (by omega)
      have u15 := j_ub v9
      conv => whnf
      refine ⟨fun c16 => ?_, fun c16 => ?_⟩
      · have c16 : (nI (j_ln H12 b2)).toInt ≤ (v9).toInt := c16
        conv => whnf
        refine ⟨_, _, rfl, k13_b2, ?_⟩
        have nl17 : (nI (j_ln H12 b2)).toInt = (j_ln H12 b2 : Int) := nI_toInt (by omega)
        have nIe : nI (j_ln H12 b2) = Z.1 0 := Int32.toInt_inj.mp (by omega)
        have ev9 : v9.toInt = (Z.1 0).toInt := by omega
        have L71 : ∀ (k : Nat) (v19 : Int32) (cn sn : Nat), cn ≤ 2 → sn ≤ 16 → 0 ≤ v19.toInt → v19.toInt ≤ (z_al (Z.1 0)).toInt + 1 → (z_al (Z.1 0)).toInt + 1 - v19.toInt < (k : Int) → J 71 [some (j_r (some m)), some (j_r (some s)), some (j_r (some b2)), some (j_r (some b6)), some (j_i (z_ff Z v19.toNatClampNeg)), some (j_i v19)] [] H12 cn sn := by
          intro k
          induction k with
          | zero => intro v19 cn sn hcn hsn hn hl hm; omega
          | succ k ih71 =>
            intro v19 cn sn hcn hsn hn hl hm
            have cl := j_clamp hn
            refine hJ [23, 71] 400 _ _ _ _ _ _ ?_
            conv => whnf
            refine ⟨_, _, rfl, k13_b2, ?_⟩
            conv => whnf
            refine ⟨fun c27 => ?_, fun c27 => ?_⟩
            · have c27 : ((Int32.ofInt (1) <<< (nI (j_ln H12 b2) &&& 31))).toInt ≤ (v19).toInt := c27
              rw [nIe, al2] at c27
              have ev : v19.toNatClampNeg = (z_al (Z.1 0)).toNatClampNeg + 1 := by omega
              conv => whnf
              exact ⟨trivial, ⟨by (try dsimp only); omega, by (try dsimp only); omega⟩, ⟨f13_0, tH12, sI⟩, by rw [ev, z_fw_m n0 n8]⟩
            · have c27 : ¬ ((Int32.ofInt (1) <<< (nI (j_ln H12 b2) &&& 31))).toInt ≤ (v19).toInt := c27
              rw [nIe, al2] at c27
              have t14 : (v19 + Int32.ofInt 1).toInt = v19.toInt + 1 := j_inc1 (by omega)
              have cl14 := j_clamp (i := v19 + Int32.ofInt 1) (by omega)
              have ek : (v19 + Int32.ofInt 1).toNatClampNeg = v19.toNatClampNeg + 1 := by omega
              have nx := fun (cn sn : Nat) (hc : cn ≤ 2) (hs : sn ≤ 16) => ih71 (v19 + Int32.ofInt 1) cn sn hc hs (by omega) (by omega) (by omega)
              rw [ek] at nx
              have eo := z_ofn hn
              conv => whnf
              refine ⟨rfl, _, _, _, _, _, _, c_bitCountx, ⟨Nat.le_of_ble_eq_true rfl, Nat.le_of_ble_eq_true rfl, by (try dsimp only); omega, by (try dsimp only); omega⟩, fun _ _ z => False.elim z, ?_⟩
              rintro v9 h9 ⟨e9, rfl⟩
              obtain rfl : H12 = h9 := e9.symm
              conv => whnf
              refine ⟨rfl, _, _, _, _, _, _, c_bitCountx, ⟨Nat.le_of_ble_eq_true rfl, Nat.le_of_ble_eq_true rfl, by (try dsimp only); omega, by (try dsimp only); omega⟩, fun _ _ z => False.elim z, ?_⟩
              rintro v9 h9 ⟨e9, rfl⟩
              obtain rfl : H12 = h9 := e9.symm
              conv => whnf
              refine ⟨fun c32 => ?_, fun c32 => ?_⟩
              · have c32 : (z_bc (z_ff Z v19.toNatClampNeg)).toInt ≤ (z_bc v19).toInt := c32
                rw [z_ffF (fun q => by have q1 := q.1; rw [← eo] at q1; omega)] at nx
                exact j_use hF (nx _ _ (by (try dsimp only); omega) (by (try dsimp only); omega)) (And.intro rfl (And.intro rfl (And.intro rfl (And.intro rfl (And.intro rfl (And.intro rfl trivial))))))
              · have c32 : ¬ (z_bc (z_ff Z v19.toNatClampNeg)).toInt ≤ (z_bc v19).toInt := c32
                conv => whnf
                refine ⟨w13.km, rfl, _, _, _, _, _, _, c_Mo_agreex w13 k13_b2 (by omega) k13_b6 (by omega) e13 (fun k hk => (vI k (by omega)).1) (fun k hk => (vI k (by omega)).2), ⟨Nat.le_of_ble_eq_true rfl, Nat.le_of_ble_eq_true rfl, by (try dsimp only); omega, by (try dsimp only); omega⟩, fun _ _ z => False.elim z, ?_⟩
                rintro v9 h9 ⟨e9, r34, rfl, zr34⟩
                obtain rfl : H12 = h9 := e9.symm
                conv => whnf
                refine ⟨fun c35 => ?_, fun c35 => ?_⟩
                · have c35 : (r34).toInt = 0 := c35
                  rw [z_ffF (fun q => zr34.mpr (by have q2 := q.2; rw [← eo] at q2; exact q2) c35)] at nx
                  exact j_use hF (nx _ _ (by (try dsimp only); omega) (by (try dsimp only); omega)) (And.intro rfl (And.intro rfl (And.intro rfl (And.intro rfl (And.intro rfl (And.intro rfl trivial))))))
                · have c35 : ¬ (r34).toInt = 0 := c35
                  rw [z_ffT ⟨by rw [← eo]; omega, by rw [← eo]; exact zr34.mp c35⟩, ← eo] at nx
                  exact j_use hF (nx _ _ (by (try dsimp only); omega) (by (try dsimp only); omega)) (And.intro rfl (And.intro rfl (And.intro rfl (And.intro rfl (And.intro rfl (And.intro rfl trivial))))))
        have q38 : (Int32.ofInt (0)).toInt = 0 := by decide
        have qc38 := j_clamp (i := Int32.ofInt 0) (by omega)
        have st71 := fun (cn sn : Nat) (hc : cn ≤ 2) (hs : sn ≤ 16) => L71 258 (Int32.ofInt 0) cn sn hc hs (by omega) (by omega) (by omega)
        rw [show (Int32.ofInt 0).toNatClampNeg = 0 by omega, show z_ff Z 0 = (Int32.ofInt 1 <<< (nI (j_ln H12 b2) &&& 31)) - Int32.ofInt 1 by rw [nIe]; rfl] at st71
        exact j_use hF (st71 _ _ (by (try dsimp only); omega) (by (try dsimp only); omega)) (And.intro rfl (And.intro rfl (And.intro rfl (And.intro rfl (And.intro rfl (And.intro rfl trivial))))))
      · have c16 : ¬ (nI (j_ln H12 b2)).toInt ≤ (v9).toInt := c16
        have q39 : (Int32.ofInt (-1)).toInt = -1 := by decide
        conv => whnf
        refine ⟨w13.km, rfl, _, _, _, _, _, _, c_Mo_earlyOfx w13 k13_s (by omega) cl9.symm e13 (fun k hk => (sI s _ ks).trans (hs k (by omega)).1), ⟨Nat.le_of_ble_eq_true rfl, Nat.le_of_ble_eq_true rfl, by (try dsimp only); omega, by (try dsimp only); omega⟩, fun _ _ z => False.elim z, ?_⟩
        rintro o40 h9 ⟨e9, er40⟩
        obtain ⟨r40, hr40⟩ : ∃ r, r = z_gE Z v9.toNatClampNeg := ⟨_, rfl⟩
        obtain rfl : o40 = some (j_i r40) := er40.trans (congrArg (fun r => some (j_i r)) (by rw [hr40]; rfl))
        obtain rfl : H12 = h9 := e9.symm
        conv => whnf
        refine ⟨_, rfl, k13_b2, j_vp (by omega) (by omega), ?_⟩
        show j_go _ _ _ _ _ _ _ _ _ _ (j_ui H12 b2 (v9).toNatClampNeg r40) _ _
        have st41 : j_Mf ρ m H12 (j_ui H12 b2 (v9).toNatClampNeg r40) := j_Mf.ar w13.km k13_b2 (⟨by omega, fun z => absurd z (by omega)⟩)
        have tH41 : z_th m h (j_ui H12 b2 (v9).toNatClampNeg r40) := (z_th.ui w13.km k13_b2 (by decide)).trans tH12
        have s41 : ∀ q j, j_kd h q = some (.inr 0) → j_it (j_ui H12 b2 (v9).toNatClampNeg r40) q j = j_it h q j := fun q j kq => (z_une (nq2 q kq)).trans (sI q j kq)
        have c41 : ∀ j, j_it (j_ui H12 b2 (v9).toNatClampNeg r40) b2 j = if j = v9.toNatClampNeg then r40 else j_it H12 b2 j := fun j => z_uia
        have d41 : ∀ j, j_it (j_ui H12 b2 (v9).toNatClampNeg r40) b6 j = j_it H12 b6 j := fun j => z_une (Ne.symm ne26)
        generalize j_ui H12 b2 (v9).toNatClampNeg r40 = H41 at st41 tH41 s41 c41 d41 ⊢
        have zG41 := congrArg Int32.toInt (st41.sz w13.lG.1)
        have zR41 := congrArg Int32.toInt (st41.sz w13.lR.1)
        have zQ41 := congrArg Int32.toInt (st41.sz w13.lQ.1)
        have n41_s := st41.ln k13_s
        have k41_s := st41.kd k13_s
        have n41_b2 := st41.ln k13_b2
        have k41_b2 := st41.kd k13_b2
        have n41_b6 := st41.ln k13_b6
        have k41_b6 := st41.kd k13_b6
        have w41 := w13.f st41
        have f41_0 := f13_0.tr st41
        have f41_B11 := sbB11.tr st41
        have q42 : (Int32.ofInt (-1)).toInt = -1 := by decide
        have e41 : z_eq (z_d H41 m P G R Q) Z := (z_mfd w f41_0).tr e
        conv => whnf
        refine ⟨w41.km, rfl, _, _, _, _, _, _, c_Mo_lateOfx w41 k41_s (by omega) cl9.symm e41 (fun k hk => (s41 s _ ks).trans (hs k (by omega)).2), ⟨Nat.le_of_ble_eq_true rfl, Nat.le_of_ble_eq_true rfl, by (try dsimp only); omega, by (try dsimp only); omega⟩, fun _ _ z => False.elim z, ?_⟩
        rintro o43 h9 ⟨e9, er43⟩
        obtain ⟨r43, hr43⟩ : ∃ r, r = z_gL Z v9.toNatClampNeg := ⟨_, rfl⟩
        obtain rfl : o43 = some (j_i r43) := er43.trans (congrArg (fun r => some (j_i r)) (by rw [hr43]; rfl))
        obtain rfl : H41 = h9 := e9.symm
        conv => whnf
        refine ⟨_, rfl, k41_b6, j_vp (by omega) (by omega), ?_⟩
        show j_go _ _ _ _ _ _ _ _ _ _ (j_ui H41 b6 (v9).toNatClampNeg r43) _ _
        have st44 : j_Mf ρ m H41 (j_ui H41 b6 (v9).toNatClampNeg r43) := j_Mf.ar w41.km k41_b6 (⟨by omega, fun z => absurd z (by omega)⟩)
        have tH44 : z_th m h (j_ui H41 b6 (v9).toNatClampNeg r43) := (z_th.ui w41.km k41_b6 (by decide)).trans tH41
        have s44 : ∀ q j, j_kd h q = some (.inr 0) → j_it (j_ui H41 b6 (v9).toNatClampNeg r43) q j = j_it h q j := fun q j kq => (z_une (nq6 q kq)).trans (s41 q j kq)
        have c44 : ∀ j, j_it (j_ui H41 b6 (v9).toNatClampNeg r43) b6 j = if j = v9.toNatClampNeg then r43 else j_it H41 b6 j := fun j => z_uia
        have d44 : ∀ j, j_it (j_ui H41 b6 (v9).toNatClampNeg r43) b2 j = j_it H41 b2 j := fun j => z_une ne26
        generalize j_ui H41 b6 (v9).toNatClampNeg r43 = H44 at st44 tH44 s44 c44 d44 ⊢
        have zG44 := congrArg Int32.toInt (st44.sz w41.lG.1)
        have zR44 := congrArg Int32.toInt (st44.sz w41.lR.1)
        have zQ44 := congrArg Int32.toInt (st44.sz w41.lQ.1)
        have n44_s := st44.ln k41_s
        have k44_s := st44.kd k41_s
        have n44_b2 := st44.ln k41_b2
        have k44_b2 := st44.kd k41_b2
        have n44_b6 := st44.ln k41_b6
        have k44_b6 := st44.kd k41_b6
        have w44 := w41.f st44
        have f44_0 := f41_0.tr st44
        have f44_B11 := f41_B11.tr st44
        have t45 : (v9 + Int32.ofInt 1).toInt = v9.toInt + 1 := j_inc1 (by omega)
        have ct45 := j_clamp (i := v9 + Int32.ofInt 1) (by omega)
        have vI' : ∀ k, k < (v9 + Int32.ofInt 1).toNatClampNeg → j_it H44 b2 k = z_gE Z k ∧ j_it H44 b6 k = z_gL Z k := by
          intro k hk
          rw [d44, c41, c44, d41]
          by_cases hv : k = v9.toNatClampNeg
          · rw [if_pos hv, if_pos hv, hr40, hr43, hv]
            exact ⟨rfl, rfl⟩
          · rw [if_neg hv, if_neg hv]
            exact vI k (by omega)
        exact j_use hF (ihB11 _ _ _ _ f44_B11 tH44 s44 vI' (by (try dsimp only); omega) (by (try dsimp only); omega) (by omega) (by omega) (by omega)) (And.intro rfl (And.intro rfl (And.intro rfl (And.intro rfl (And.intro rfl trivial)))))
  have q46 : (Int32.ofInt (0)).toInt = 0 := by decide
  have qc46 := j_clamp (i := Int32.ofInt 0) (by omega)
  exact j_use hF (L23_10 4294967296 _ _ _ _ j_Mf.rf tH7 sH7 (fun k hk => absurd hk (by omega)) (by (try dsimp only); omega) (by (try dsimp only); omega) (by omega) (by omega) (by omega)) (And.intro rfl (And.intro rfl (And.intro rfl (And.intro rfl (And.intro rfl trivial)))))
