/-! the model's lab: word for word -/
set_option maxHeartbeats 4000000 in
set_option maxRecDepth 20000 in
theorem c_Mo_standingRunsx {ρ : Nat → Nat} {h : j_H} {m P G R Q : Nat} (w : j_MX ρ h m P G R Q) : j_Ct 216 3 61 1 4 [j_r (some m)] h (fun v h' => (j_Mf ρ m h h' ∧ z_th m h h' ∧ ∀ q j, j_kd h q = some (.inr 0) → j_it h' q j = j_it h q j) ∧ v = some (j_i (z_cnt (z_dst (z_d h m P G R Q)) (j_it h R 2).toNatClampNeg))) j_no := by
  refine j_intro km_216 (Nat.le_of_ble_eq_true rfl) ?_
  intro J hJ hF
  have z0 : (Int32.ofInt 0).toInt = 0 := by decide
  have z1 : (Int32.ofInt 1).toInt = 1 := by decide
  have L : ∀ (k i n : Nat) (v : Int32) (hh : j_H) (cn sn : Nat), j_Mf ρ m h hh → z_th m h hh → (∀ q j, j_kd h q = some (.inr 0) → j_it hh q j = j_it h q j) → j_Ir hh i R (n : Int) → v = z_cnt (z_dst (z_d h m P G R Q)) n → cn ≤ 1 → sn ≤ 4 → ((j_it hh R 2).toInt - n).toNat < k → J 10 [some (j_r (some m)), some (j_i v), some (j_r (some i)), none] [] hh cn sn := by
    intro k
    induction k with
    | zero => intro i n v hh cn sn f t ak r hv hc hs hk; omega
    | succ k ih =>
      intro i n v hh cn sn f t ak r hv hc hs hk
      have w1 := w.f f
      have wb := w1.b
      have r0 := r
      obtain ⟨ki, r3, m2, c0, n0, nz⟩ := r0
      refine hJ [10] 400 _ _ _ _ _ _ ?_
      conv => whnf
      refine ⟨ki, rfl, _, _, _, _, _, _, c_IT_hasNext ki r3 w1.lR.1, ⟨Nat.le_of_ble_eq_true rfl, Nat.le_of_ble_eq_true rfl, by (try dsimp only); omega, by (try dsimp only); omega⟩, fun _ _ z => False.elim z, ?_⟩
      rintro v9 h9 ⟨e9, b9, rfl, hb9⟩
      obtain rfl : hh = h9 := e9.symm
      conv => whnf
      refine ⟨fun c => ?_, fun c => ?_⟩
      · have c : b9.toInt = 0 := c
        have en : n = (j_it h R 2).toNatClampNeg := by
          have e1 : j_it hh R 2 = j_it h R 2 := f.sz w.lR.1
          rw [← e1]
          have := j_clamp (i := j_it hh R 2) (by omega)
          omega
        conv => whnf
        exact ⟨trivial, ⟨by (try dsimp only); omega, by (try dsimp only); omega⟩, ⟨f, t, ak⟩, by rw [hv, en]⟩
      · have c : ¬ b9.toInt = 0 := c
        have hn : (n : Int) < (j_it hh R 2).toInt := by omega
        conv => whnf
        refine ⟨ki, rfl, _, _, _, _, _, _, c_IT_next ki r3 m2 w1.lR (by omega) (by omega), ⟨Nat.le_of_ble_eq_true rfl, Nat.le_of_ble_eq_true rfl, by (try dsimp only); omega, by (try dsimp only); omega⟩, fun _ _ z => False.elim z, ?_⟩
        rintro v9 h9 ⟨⟨e, arr, rfl, ke, a1, a2⟩, e9⟩
        have he : z_ml hh R n = e := by
          have en : (j_it hh i 0).toNatClampNeg = n := by have := j_clamp (i := j_it hh i 0) (by omega); omega
          rw [en] at a2
          exact z_ml_of a1 a2
        obtain ⟨st, rn⟩ := r.next (ρ := ρ) (m := m) w1.km w1.lR.1 hn (by omega)
        have t9 : z_th m h h9 := by
          rw [e9]
          have ni : m ≠ i := fun z => by have := w1.km; rw [z, ki] at this; cases this
          exact (z_th.up ni).trans ((z_th.up ni).trans t)
        have a9 : ∀ q j, j_kd h q = some (.inr 0) → j_it h9 q j = j_it h q j := by
          intro q j kq
          rw [e9]
          have ni : q ≠ i := fun z => by have := f.kd kq; rw [z, ki] at this; cases this
          exact ((j_up_ne _ _ ni j).1).trans (((j_up_ne _ _ ni j).1).trans (ak q j kq))
        rw [← e9] at st rn
        have ke9 := st.kd ke
        have z9 := congrArg Int32.toInt (st.sz w1.lR.1)
        have he9 : z_ml h9 R n = e := (z_ml_f st w1.lR hn).trans he
        have hn9 : (n : Int) < (j_it h9 R 2).toInt := by omega
        have f9 := f.tr st
        have E9 := z_mfd w f9
        have back : ∀ (d : Int32) (cn sn : Nat), z_cnt (z_dst (z_d h m P G R Q)) (n + 1) = z_cnt (z_dst (z_d h m P G R Q)) n + d → cn ≤ 1 → sn ≤ 4 → J 10 [some (j_r (some m)), some (j_i (v + d)), some (j_r (some i)), none] [] h9 cn sn := fun d cn sn q hc hs => ih i (n + 1) (v + d) h9 cn sn f9 t9 a9 rn (by rw [q, hv]) hc hs (by omega)
        clear ih
        conv => whnf
        refine ⟨Or.inr ⟨_, rfl, ke9⟩, ?_⟩
        conv => whnf
        refine ⟨_, rfl, ke9, fun x ex => ?_⟩
        have ds : z_dst (z_d h m P G R Q) n = decide (x.toInt = 0) := by
          have r6 : (z_d h9 m P G R Q).2.2.2.1 n 6 = if x.toInt = 0 then Int32.ofInt 1 else Int32.ofInt 0 := by rw [← ex, ← he9]; rfl
          unfold z_dst
          rw [← E9.2.2.2.1 n 6 hn9 (by decide), r6]
          by_cases q : x.toInt = 0
          · rw [if_pos q, decide_eq_true q]
            decide
          · rw [if_neg q, decide_eq_false q]
            decide
        conv => whnf
        refine ⟨fun c2 => ?_, fun c2 => ?_⟩
        · first
          | exact j_use hF (back (Int32.ofInt 1) _ _ (by show _ + (if z_dst (z_d h m P G R Q) n = true then _ else _) = _; rw [ds, decide_eq_true (show x.toInt = 0 from c2)]; rfl) (by (try dsimp only); omega) (by (try dsimp only); omega)) (And.intro rfl (And.intro rfl (And.intro rfl trivial)))
          | exact j_use hF (back (Int32.ofInt 0) _ _ (by show _ + (if z_dst (z_d h m P G R Q) n = true then _ else _) = _; rw [ds, decide_eq_false (show ¬ x.toInt = 0 from c2)]; rfl) (by (try dsimp only); omega) (by (try dsimp only); omega)) (And.intro rfl (And.intro rfl (And.intro rfl trivial)))
        · first
          | exact j_use hF (back (Int32.ofInt 0) _ _ (by show _ + (if z_dst (z_d h m P G R Q) n = true then _ else _) = _; rw [ds, decide_eq_false (show ¬ x.toInt = 0 from c2)]; rfl) (by (try dsimp only); omega) (by (try dsimp only); omega)) (And.intro rfl (And.intro rfl (And.intro rfl trivial)))
          | exact j_use hF (back (Int32.ofInt 1) _ _ (by show _ + (if z_dst (z_d h m P G R Q) n = true then _ else _) = _; rw [ds, decide_eq_true (show x.toInt = 0 from Decidable.not_not.mp c2)]; rfl) (by (try dsimp only); omega) (by (try dsimp only); omega)) (And.intro rfl (And.intro rfl (And.intro rfl trivial)))
  have wb := w.b
  refine hJ [10] 400 _ _ _ _ _ _ ?_
  conv => whnf
  refine ⟨_, rfl, w.km, fun o eo => ?_⟩
  obtain rfl : o = some R := eo.symm.trans w.eR
  conv => whnf
  refine ⟨w.lR.1, rfl, _, _, _, _, _, _, c_AL_iterator w.lR.1, ⟨Nat.le_of_ble_eq_true rfl, Nat.le_of_ble_eq_true rfl, Nat.le_of_ble_eq_true rfl, Nat.le_of_ble_eq_true rfl⟩, fun _ _ z => False.elim z, ?_⟩
  rintro v9 h9 ⟨i, rfl, hi, o, od, ki, r3, m2, c0⟩
  have kR9 : j_kd h9 R = some (.inl 3) := (o.2 R (j_nn w.lR.1)).1.trans w.lR.1
  have zR9 : j_it h9 R 2 = j_it h R 2 := ((o.2 R (j_nn w.lR.1)).2.2 (fun z => z) 2).1
  have t9 : z_th m h h9 := ⟨((o.2 m (j_nn w.km)).2.2 (fun z => z) 0).1, ((o.2 m (j_nn w.km)).2.2 (fun z => z) 7).2.1⟩
  have a9 : ∀ q j, j_kd h q = some (.inr 0) → j_it h9 q j = j_it h q j := fun q j kq => ((o.2 q (j_nn kq)).2.2 (fun z => z) j).1
  obtain ⟨st, r0⟩ := j_Ir.new (ρ := ρ) w.km kR9 hi o od ki r3 m2 c0 (by rw [zR9]; omega)
  exact j_use hF (L 100 i 0 (Int32.ofInt 0) h9 _ _ st t9 a9 r0 rfl (Nat.le_of_ble_eq_true rfl) (Nat.le_of_ble_eq_true rfl) (by rw [zR9]; omega)) (And.intro rfl (And.intro rfl (And.intro rfl trivial)))
set_option maxHeartbeats 4000000 in
set_option maxRecDepth 20000 in
theorem c_Mo_motesx {ρ : Nat → Nat} {h : j_H} {m P G R Q : Nat} (w : j_MX ρ h m P G R Q) : j_Ct 196 3 61 1 4 [j_r (some m)] h (fun v h' => (j_Mf ρ m h h' ∧ z_th m h h' ∧ ∀ q j, j_kd h q = some (.inr 0) → j_it h' q j = j_it h q j) ∧ v = some (j_i (z_sI (z_br (z_d h m P G R Q)) (j_it h G 2).toNatClampNeg))) j_no := by
  refine j_intro km_196 (Nat.le_of_ble_eq_true rfl) ?_
  intro J hJ hF
  have z0 : (Int32.ofInt 0).toInt = 0 := by decide
  have z1 : (Int32.ofInt 1).toInt = 1 := by decide
  have L : ∀ (k i n : Nat) (v : Int32) (hh : j_H) (cn sn : Nat), j_Mf ρ m h hh → z_th m h hh → (∀ q j, j_kd h q = some (.inr 0) → j_it hh q j = j_it h q j) → j_Ir hh i G (n : Int) → v = z_sI (z_br (z_d h m P G R Q)) n → cn ≤ 1 → sn ≤ 4 → ((j_it hh G 2).toInt - n).toNat < k → J 10 [some (j_r (some m)), some (j_i v), some (j_r (some i)), none] [] hh cn sn := by
    intro k
    induction k with
    | zero => intro i n v hh cn sn f t ak r hv hc hs hk; omega
    | succ k ih =>
      intro i n v hh cn sn f t ak r hv hc hs hk
      have w1 := w.f f
      have wb := w1.b
      have r0 := r
      obtain ⟨ki, r3, m2, c0, n0, nz⟩ := r0
      refine hJ [10] 400 _ _ _ _ _ _ ?_
      conv => whnf
      refine ⟨ki, rfl, _, _, _, _, _, _, c_IT_hasNext ki r3 w1.lG.1, ⟨Nat.le_of_ble_eq_true rfl, Nat.le_of_ble_eq_true rfl, by (try dsimp only); omega, by (try dsimp only); omega⟩, fun _ _ z => False.elim z, ?_⟩
      rintro v9 h9 ⟨e9, b9, rfl, hb9⟩
      obtain rfl : hh = h9 := e9.symm
      conv => whnf
      refine ⟨fun c => ?_, fun c => ?_⟩
      · have c : b9.toInt = 0 := c
        have en : n = (j_it h G 2).toNatClampNeg := by
          have e1 : j_it hh G 2 = j_it h G 2 := f.sz w.lG.1
          rw [← e1]
          have := j_clamp (i := j_it hh G 2) (by omega)
          omega
        conv => whnf
        exact ⟨trivial, ⟨by (try dsimp only); omega, by (try dsimp only); omega⟩, ⟨f, t, ak⟩, by rw [hv, en]⟩
      · have c : ¬ b9.toInt = 0 := c
        have hn : (n : Int) < (j_it hh G 2).toInt := by omega
        conv => whnf
        refine ⟨ki, rfl, _, _, _, _, _, _, c_IT_next ki r3 m2 w1.lG (by omega) (by omega), ⟨Nat.le_of_ble_eq_true rfl, Nat.le_of_ble_eq_true rfl, by (try dsimp only); omega, by (try dsimp only); omega⟩, fun _ _ z => False.elim z, ?_⟩
        rintro v9 h9 ⟨⟨e, arr, rfl, ke, a1, a2⟩, e9⟩
        have fe : j_gA ρ hh e := w1.aG.get (i := j_it hh i 0) (by omega) (by omega) ⟨arr, a1, a2⟩
        have he : z_ml hh G n = e := by
          have en : (j_it hh i 0).toNatClampNeg = n := by have := j_clamp (i := j_it hh i 0) (by omega); omega
          rw [en] at a2
          exact z_ml_of a1 a2
        obtain ⟨st, rn⟩ := r.next (ρ := ρ) (m := m) w1.km w1.lG.1 hn (by omega)
        have t9 : z_th m h h9 := by
          rw [e9]
          have ni : m ≠ i := fun z => by have := w1.km; rw [z, ki] at this; cases this
          exact (z_th.up ni).trans ((z_th.up ni).trans t)
        have a9 : ∀ q j, j_kd h q = some (.inr 0) → j_it h9 q j = j_it h q j := by
          intro q j kq
          rw [e9]
          have ni : q ≠ i := fun z => by have := f.kd kq; rw [z, ki] at this; cases this
          exact ((j_up_ne _ _ ni j).1).trans (((j_up_ne _ _ ni j).1).trans (ak q j kq))
        rw [← e9] at st rn
        have ke9 := st.kd ke
        obtain ⟨d, ed, kd, nd, -⟩ := st.gA ke fe 3 (by decide)
        have z9 := congrArg Int32.toInt (st.sz w1.lG.1)
        have he9 : z_ml h9 G n = e := (z_ml_f st w1.lG hn).trans he
        have hn9 : (n : Int) < (j_it h9 G 2).toInt := by omega
        have f9 := f.tr st
        have E9 := z_mfd w f9
        have back : ∀ (d : Int32) (cn sn : Nat), z_sI (z_br (z_d h m P G R Q)) (n + 1) = z_sI (z_br (z_d h m P G R Q)) n + d → cn ≤ 1 → sn ≤ 4 → J 10 [some (j_r (some m)), some (j_i (v + d)), some (j_r (some i)), none] [] h9 cn sn := fun d cn sn q hc hs => ih i (n + 1) (v + d) h9 cn sn f9 t9 a9 rn (by rw [q, hv]) hc hs (by omega)
        clear ih
        conv => whnf
        refine ⟨Or.inr ⟨_, rfl, ke9⟩, ?_⟩
        conv => whnf
        refine ⟨_, rfl, ke9, fun o eo => ?_⟩
        obtain rfl : o = some d := eo.symm.trans ed
        conv => whnf
        refine ⟨_, _, rfl, kd, rfl, j_vp (by omega) (by omega), fun x ex => ?_⟩
        conv => whnf
        refine ⟨_, rfl, ke9, fun o eo => ?_⟩
        obtain rfl : o = some d := eo.symm.trans ed
        conv => whnf
        refine ⟨_, _, rfl, kd, rfl, j_vp (by omega) (by omega), fun y ey => ?_⟩
        have bx : (z_d h m P G R Q).2.1 n 0 3 = x := by
          rw [← E9.2.1 n 0 3 hn9 (by decide) (by decide)]
          show j_it h9 ((j_rf h9 (z_ml h9 G n) 3).getD 0) 0 = x
          rw [he9, ed]
          exact ex
        have by' : (z_d h m P G R Q).2.1 n 1 3 = y := by
          rw [← E9.2.1 n 1 3 hn9 (by decide) (by decide)]
          show j_it h9 ((j_rf h9 (z_ml h9 G n) 3).getD 0) 1 = y
          rw [he9, ed]
          exact ey
        exact j_use hF (back (x + y) _ _ (by show _ + ((z_d h m P G R Q).2.1 n 0 3 + (z_d h m P G R Q).2.1 n 1 3) = _; rw [bx, by']) (by (try dsimp only); omega) (by (try dsimp only); omega)) (And.intro rfl (And.intro rfl (And.intro rfl trivial)))
  have wb := w.b
  refine hJ [10] 400 _ _ _ _ _ _ ?_
  conv => whnf
  refine ⟨_, rfl, w.km, fun o eo => ?_⟩
  obtain rfl : o = some G := eo.symm.trans w.eG
  conv => whnf
  refine ⟨w.lG.1, rfl, _, _, _, _, _, _, c_AL_iterator w.lG.1, ⟨Nat.le_of_ble_eq_true rfl, Nat.le_of_ble_eq_true rfl, Nat.le_of_ble_eq_true rfl, Nat.le_of_ble_eq_true rfl⟩, fun _ _ z => False.elim z, ?_⟩
  rintro v9 h9 ⟨i, rfl, hi, o, od, ki, r3, m2, c0⟩
  have kR9 : j_kd h9 G = some (.inl 3) := (o.2 G (j_nn w.lG.1)).1.trans w.lG.1
  have zR9 : j_it h9 G 2 = j_it h G 2 := ((o.2 G (j_nn w.lG.1)).2.2 (fun z => z) 2).1
  have t9 : z_th m h h9 := ⟨((o.2 m (j_nn w.km)).2.2 (fun z => z) 0).1, ((o.2 m (j_nn w.km)).2.2 (fun z => z) 7).2.1⟩
  have a9 : ∀ q j, j_kd h q = some (.inr 0) → j_it h9 q j = j_it h q j := fun q j kq => ((o.2 q (j_nn kq)).2.2 (fun z => z) j).1
  obtain ⟨st, r0⟩ := j_Ir.new (ρ := ρ) w.km kR9 hi o od ki r3 m2 c0 (by rw [zR9]; omega)
  exact j_use hF (L 100 i 0 (Int32.ofInt 0) h9 _ _ st t9 a9 r0 rfl (Nat.le_of_ble_eq_true rfl) (Nat.le_of_ble_eq_true rfl) (by rw [zR9]; omega)) (And.intro rfl (And.intro rfl (And.intro rfl trivial)))
set_option maxHeartbeats 4000000 in
set_option maxRecDepth 20000 in
theorem c_Mo_quarrellingx {ρ : Nat → Nat} {h : j_H} {m P G R Q : Nat} {s : Nat} (w : j_MX ρ h m P G R Q) (ks : j_kd h s = some (.inr 0)) (ns : (j_ln h s : Int) = 2 * (j_it h R 2).toInt) (hs : ∀ k : Nat, (k : Int) < (j_it h R 2).toInt → j_it h s (2 * k) = z_er (z_d h m P G R Q) k ∧ j_it h s (2 * k + 1) = z_lr (z_d h m P G R Q) k) : j_Ct 208 6 136 0 0 [j_r (some m), j_r (some s)] h (fun v h' => h' = h ∧ v = some (j_i (z_cnt (z_qr (z_d h m P G R Q)) (j_it h G 2).toNatClampNeg))) j_no := by
  refine j_intro km_208 (Nat.le_of_ble_eq_true rfl) ?_
  intro J hJ hF
  have wb := w.b
  refine hJ [4] 400 _ _ _ _ _ _ ?_
  have L4_3 : ∀ (k : Nat) (v1 : Int32) (v2 : Int32), 0 ≤ v2.toInt → v2.toInt ≤ (j_it h G 2).toInt → v1 = z_cnt (z_qr (z_d h m P G R Q)) v2.toNatClampNeg → (2147483647 - v2.toInt) < (k : Int) → J 4 [some (j_r (some m)), some (j_r (some s)), some (j_i v1), some (j_i v2)] [] h 0 0 := by
    intro k
    induction k with
    | zero => intro v1 v2 hn hl iv hm; exact absurd hm (by have := j_ub v2; omega)
    | succ k ihB4 =>
      intro v1 v2 hn hl iv hm
      have cl2 := j_clamp hn
      have clG := j_clamp (i := j_it h G 2) (by omega)
      have uv1 := j_ub v1; have lv1 := j_lb v1
      have uv2 := j_ub v2; have lv2 := j_lb v2
      refine hJ [4] 400 _ _ _ _ _ _ ?_
      conv => whnf
      refine ⟨_, rfl, w.km, fun o5 eo => ?_⟩
      obtain rfl : o5 = some G := eo.symm.trans w.eG
      conv => whnf
      refine ⟨w.lG.1, rfl, _, _, _, _, _, _, c_AL_size (h := h) w.lG j_Sc.rf j_sf_ok, ⟨Nat.le_of_ble_eq_true rfl, Nat.le_of_ble_eq_true rfl, Nat.le_of_ble_eq_true rfl, Nat.le_of_ble_eq_true rfl⟩, fun _ _ z => False.elim z, ?_⟩
      rintro v9 h9 ⟨e9, rfl⟩
      obtain rfl : h = h9 := e9.symm
      have u6 := j_ub v2
      conv => whnf
      refine ⟨fun c7 => ?_, fun c7 => ?_⟩
      · have c7 : ((j_it h G 2)).toInt ≤ (v2).toInt := c7
        conv => whnf
        exact ⟨trivial, ⟨Nat.le_of_ble_eq_true rfl, Nat.le_of_ble_eq_true rfl⟩, rfl, by rw [iv, show v2.toNatClampNeg = (j_it h G 2).toNatClampNeg by omega]⟩
      · have c7 : ¬ ((j_it h G 2)).toInt ≤ (v2).toInt := c7
        have q8 : (Int32.ofInt (-1)).toInt = -1 := by decide
        conv => whnf
        refine ⟨w.km, rfl, _, _, _, _, _, _, c_Mo_quarrelsx w ks (by omega) cl2.symm z_eq.rf hs, ⟨Nat.le_of_ble_eq_true rfl, Nat.le_of_ble_eq_true rfl, Nat.le_of_ble_eq_true rfl, Nat.le_of_ble_eq_true rfl⟩, fun _ _ z => False.elim z, ?_⟩
        rintro o9 h9 ⟨e9, er9⟩
        obtain rfl : o9 = some (j_i (z_b (z_qr (z_d h m P G R Q) v2.toNatClampNeg))) := er9
        have t2 : (v2 + Int32.ofInt 1).toInt = v2.toInt + 1 := j_inc1 (by omega)
        have ct2 := j_clamp (i := v2 + Int32.ofInt 1) (by omega)
        have nx := fun (d : Int32) (q : (if z_qr (z_d h m P G R Q) v2.toNatClampNeg = true then Int32.ofInt 1 else Int32.ofInt 0) = d) => ihB4 (v1 + d) (v2 + Int32.ofInt 1) (by omega) (by omega) (by rw [iv, ← q, show (v2 + Int32.ofInt 1).toNatClampNeg = v2.toNatClampNeg + 1 by omega]; rfl) (by omega)
        obtain rfl : h = h9 := e9.symm
        conv => whnf
        refine ⟨fun c10 => ?_, fun c10 => ?_⟩
        · have c10 : (z_b (z_qr (z_d h m P G R Q) v2.toNatClampNeg)).toInt = 0 := c10
          exact j_use hF (nx (Int32.ofInt 0) (by rw [z_b0.mp c10]; rfl)) (And.intro rfl (And.intro rfl (And.intro rfl (And.intro rfl trivial))))
        · have c10 : ¬ (z_b (z_qr (z_d h m P G R Q) v2.toNatClampNeg)).toInt = 0 := c10
          exact j_use hF (nx (Int32.ofInt 1) (by rw [z_bn c10]; rfl)) (And.intro rfl (And.intro rfl (And.intro rfl (And.intro rfl trivial))))
  have q13 : (Int32.ofInt (0)).toInt = 0 := by decide
  have qc13 := j_clamp (i := Int32.ofInt 0) (by omega)
  exact j_use hF (L4_3 4294967296 _ _ (by omega) (by omega) (by rw [show (Int32.ofInt 0).toNatClampNeg = 0 by omega]; rfl) (by omega)) (And.intro rfl (And.intro rfl (And.intro rfl (And.intro rfl trivial))))
set_option maxHeartbeats 4000000 in
set_option maxRecDepth 20000 in
theorem c_Mo_labNowx {ρ : Nat → Nat} {h : j_H} {m P G R Q : Nat} {s : Nat} {a : Int32} (w : j_MX ρ h m P G R Q) (ks : j_kd h s = some (.inr 0)) (ns : (j_ln h s : Int) = 2 * (j_it h R 2).toInt) (ha : 0 ≤ a.toInt ∧ a.toInt ≤ 10) (hs : ∀ k : Nat, (k : Int) < (j_it h R 2).toInt → j_it h s (2 * k) = z_er (z_d h m P G R Q) k ∧ j_it h s (2 * k + 1) = z_lr (z_d h m P G R Q) k) : j_Ct 188 17 785 2 16 [j_r (some m), j_r (some s), j_i a] h (fun v h' => (j_Mf ρ m h h' ∧ z_th m h h' ∧ ∀ q j, j_kd h q = some (.inr 0) → j_it h' q j = j_it h q j) ∧ v = some (j_i (z_lq (z_d h m P G R Q) a.toNatClampNeg))) j_no := by
  refine j_intro km_188 (Nat.le_of_ble_eq_true rfl) ?_
  intro J hJ hF
  have wb := w.b
  have ca := j_clamp ha.1
  refine hJ [] 400 _ _ _ _ _ _ ?_
  conv => whnf
  refine ⟨And.intro (fun c1 => ?_) (And.intro (fun c1 => ?_) (And.intro (fun c1 => ?_) (And.intro (fun c1 => ?_) (And.intro (fun c1 => ?_) (And.intro (fun c1 => ?_) (And.intro (fun c1 => ?_) (And.intro (fun c1 => ?_) (And.intro (fun c1 => ?_) (And.intro (fun c1 => ?_) (trivial)))))))))), fun c1 => ?_⟩
  · have c1 : (a).toInt = 0 := c1
    conv => whnf
    refine ⟨_, rfl, w.km, fun x2 ex2 => ?_⟩
    obtain rfl : x2 = (z_d h m P G R Q).1 6 := ex2.symm
    conv => whnf
    exact ⟨trivial, ⟨by (try dsimp only); omega, by (try dsimp only); omega⟩, ⟨(j_Mf.rf : j_Mf ρ m h h), z_th.rf, fun _ _ _ => rfl⟩, congrArg (fun r => some (j_i r)) (by rw [show a.toNatClampNeg = 0 by omega, z_lq0])⟩
  · have c1 : (a).toInt = 1 := c1
    conv => whnf
    refine ⟨_, rfl, w.km, fun o3 eo => ?_⟩
    obtain rfl : o3 = some G := eo.symm.trans w.eG
    conv => whnf
    refine ⟨w.lG.1, rfl, _, _, _, _, _, _, c_AL_size (h := h) w.lG j_Sc.rf j_sf_ok, ⟨Nat.le_of_ble_eq_true rfl, Nat.le_of_ble_eq_true rfl, by (try dsimp only); omega, by (try dsimp only); omega⟩, fun _ _ z => False.elim z, ?_⟩
    rintro v9 h9 ⟨e9, rfl⟩
    obtain rfl : h = h9 := e9.symm
    conv => whnf
    exact ⟨trivial, ⟨by (try dsimp only); omega, by (try dsimp only); omega⟩, ⟨(j_Mf.rf : j_Mf ρ m h h), z_th.rf, fun _ _ _ => rfl⟩, congrArg (fun r => some (j_i r)) (by rw [show a.toNatClampNeg = 1 by omega, z_lq1]; rfl)⟩
  · have c1 : (a).toInt = 2 := c1
    conv => whnf
    refine ⟨w.km, rfl, _, _, _, _, _, _, c_Mo_standingRunsx w, ⟨Nat.le_of_ble_eq_true rfl, Nat.le_of_ble_eq_true rfl, by (try dsimp only); omega, by (try dsimp only); omega⟩, fun _ _ z => False.elim z, ?_⟩
    rintro v9 H5 ⟨⟨st6, tH5, aH5⟩, rfl⟩
    have zG7 := congrArg Int32.toInt (st6.sz w.lG.1)
    have zR7 := congrArg Int32.toInt (st6.sz w.lR.1)
    have zQ7 := congrArg Int32.toInt (st6.sz w.lQ.1)
    have n7_s := st6.ln ks
    have k7_s := st6.kd ks
    have w7 := w.f st6
    have f7_0 := (j_Mf.rf : j_Mf ρ m h h).tr st6
    conv => whnf
    exact ⟨trivial, ⟨by (try dsimp only); omega, by (try dsimp only); omega⟩, ⟨f7_0, tH5, aH5⟩, congrArg (fun r => some (j_i r)) (by rw [show a.toNatClampNeg = 2 by omega, z_lq2]; rfl)⟩
  · have c1 : (a).toInt = 3 := c1
    conv => whnf
    refine ⟨w.km, rfl, _, _, _, _, _, _, c_Mo_standingx w, ⟨Nat.le_of_ble_eq_true rfl, Nat.le_of_ble_eq_true rfl, by (try dsimp only); omega, by (try dsimp only); omega⟩, fun _ _ z => False.elim z, ?_⟩
    rintro v9 h9 ⟨e9, rfl⟩
    obtain rfl : h = h9 := e9.symm
    conv => whnf
    exact ⟨trivial, ⟨by (try dsimp only); omega, by (try dsimp only); omega⟩, ⟨(j_Mf.rf : j_Mf ρ m h h), z_th.rf, fun _ _ _ => rfl⟩, congrArg (fun r => some (j_i r)) (by rw [show a.toNatClampNeg = 3 by omega, z_lq3]; rfl)⟩
  · have c1 : (a).toInt = 4 := c1
    conv => whnf
    refine ⟨_, rfl, w.km, fun x9 ex9 => ?_⟩
    obtain rfl : x9 = (z_d h m P G R Q).1 5 := ex9.symm
    conv => whnf
    exact ⟨trivial, ⟨by (try dsimp only); omega, by (try dsimp only); omega⟩, ⟨(j_Mf.rf : j_Mf ρ m h h), z_th.rf, fun _ _ _ => rfl⟩, congrArg (fun r => some (j_i r)) (by rw [show a.toNatClampNeg = 4 by omega, z_lq4])⟩
  · have c1 : (a).toInt = 5 := c1
    conv => whnf
    refine ⟨w.km, rfl, _, _, _, _, _, _, c_Mo_doublesx w ks (by omega) z_eq.rf hs, ⟨Nat.le_of_ble_eq_true rfl, Nat.le_of_ble_eq_true rfl, by (try dsimp only); omega, by (try dsimp only); omega⟩, fun _ _ z => False.elim z, ?_⟩
    rintro v9 h9 ⟨e9, r10, rfl, hr10⟩
    obtain rfl : h = h9 := e9.symm
    conv => whnf
    exact ⟨trivial, ⟨by (try dsimp only); omega, by (try dsimp only); omega⟩, ⟨(j_Mf.rf : j_Mf ρ m h h), z_th.rf, fun _ _ _ => rfl⟩, congrArg (fun r => some (j_i r)) (by rw [show a.toNatClampNeg = 5 by omega, z_lq5]; exact z_ofR hr10)⟩
  · have c1 : (a).toInt = 6 := c1
    conv => whnf
    refine ⟨w.km, rfl, _, _, _, _, _, _, c_Mo_quarrellingx w ks (by omega) hs, ⟨Nat.le_of_ble_eq_true rfl, Nat.le_of_ble_eq_true rfl, by (try dsimp only); omega, by (try dsimp only); omega⟩, fun _ _ z => False.elim z, ?_⟩
    rintro v9 h9 ⟨e9, rfl⟩
    obtain rfl : h = h9 := e9.symm
    conv => whnf
    exact ⟨trivial, ⟨by (try dsimp only); omega, by (try dsimp only); omega⟩, ⟨(j_Mf.rf : j_Mf ρ m h h), z_th.rf, fun _ _ _ => rfl⟩, congrArg (fun r => some (j_i r)) (by rw [show a.toNatClampNeg = 6 by omega, z_lq6]; rfl)⟩
  · have c1 : (a).toInt = 7 := c1
    conv => whnf
    refine ⟨w.km, rfl, _, _, _, _, _, _, c_Mo_fewestNowx w ks (by omega) z_eq.rf hs, ⟨Nat.le_of_ble_eq_true rfl, Nat.le_of_ble_eq_true rfl, by (try dsimp only); omega, by (try dsimp only); omega⟩, fun _ _ z => False.elim z, ?_⟩
    rintro v9 H13 ⟨⟨st14, tH13, aH13⟩, rfl⟩
    have zG15 := congrArg Int32.toInt (st14.sz w.lG.1)
    have zR15 := congrArg Int32.toInt (st14.sz w.lR.1)
    have zQ15 := congrArg Int32.toInt (st14.sz w.lQ.1)
    have n15_s := st14.ln ks
    have k15_s := st14.kd ks
    have w15 := w.f st14
    have f15_0 := (j_Mf.rf : j_Mf ρ m h h).tr st14
    conv => whnf
    refine ⟨rfl, _, _, _, _, _, _, c_bitCountx, ⟨Nat.le_of_ble_eq_true rfl, Nat.le_of_ble_eq_true rfl, by (try dsimp only); omega, by (try dsimp only); omega⟩, fun _ _ z => False.elim z, ?_⟩
    rintro v9 h9 ⟨e9, rfl⟩
    obtain rfl : H13 = h9 := e9.symm
    conv => whnf
    exact ⟨trivial, ⟨by (try dsimp only); omega, by (try dsimp only); omega⟩, ⟨f15_0, tH13, aH13⟩, congrArg (fun r => some (j_i r)) (by rw [show a.toNatClampNeg = 7 by omega, z_lq7])⟩
  · have c1 : (a).toInt = 8 := c1
    conv => whnf
    refine ⟨_, rfl, w.km, fun o17 eo => ?_⟩
    obtain rfl : o17 = some P := eo.symm.trans w.eP
    have n18 := w.nP
    have q19 : (Int32.ofInt (0)).toInt = 0 := by decide
    conv => whnf
    refine ⟨_, _, rfl, w.kP, rfl, j_vp (by omega) (by omega), fun x20 ex20 => ?_⟩
    have vx20 : x20 = (z_d h m P G R Q).1 3 := ex20.symm
    have hx20 : x20.toInt ≠ 0 := j_nzP w ex20 (by omega) (by omega)
    conv => whnf
    exact ⟨trivial, ⟨by (try dsimp only); omega, by (try dsimp only); omega⟩, ⟨(j_Mf.rf : j_Mf ρ m h h), z_th.rf, fun _ _ _ => rfl⟩, congrArg (fun r => some (j_i r)) (by rw [show a.toNatClampNeg = 8 by omega, z_lq8]; exact vx20)⟩
  · have c1 : (a).toInt = 9 := c1
    conv => whnf
    refine ⟨_, rfl, w.km, fun o21 eo => ?_⟩
    obtain rfl : o21 = some P := eo.symm.trans w.eP
    have n22 := w.nP
    have q23 : (Int32.ofInt (1)).toInt = 1 := by decide
    conv => whnf
    refine ⟨_, _, rfl, w.kP, rfl, j_vp (by omega) (by omega), fun x24 ex24 => ?_⟩
    have vx24 : x24 = (z_d h m P G R Q).1 4 := ex24.symm
    have hx24 : x24.toInt ≠ 0 := j_nzP w ex24 (by omega) (by omega)
    conv => whnf
    exact ⟨trivial, ⟨by (try dsimp only); omega, by (try dsimp only); omega⟩, ⟨(j_Mf.rf : j_Mf ρ m h h), z_th.rf, fun _ _ _ => rfl⟩, congrArg (fun r => some (j_i r)) (by rw [show a.toNatClampNeg = 9 by omega, z_lq9]; exact vx24)⟩
  · have c1 : (a).toInt < 0 ∨ 9 < (a).toInt := c1
    conv => whnf
    refine ⟨w.km, rfl, _, _, _, _, _, _, c_Mo_motesx w, ⟨Nat.le_of_ble_eq_true rfl, Nat.le_of_ble_eq_true rfl, by (try dsimp only); omega, by (try dsimp only); omega⟩, fun _ _ z => False.elim z, ?_⟩
    rintro v9 H26 ⟨⟨st27, tH26, aH26⟩, rfl⟩
    have zG28 := congrArg Int32.toInt (st27.sz w.lG.1)
    have zR28 := congrArg Int32.toInt (st27.sz w.lR.1)
    have zQ28 := congrArg Int32.toInt (st27.sz w.lQ.1)
    have n28_s := st27.ln ks
    have k28_s := st27.kd ks
    have w28 := w.f st27
    have f28_0 := (j_Mf.rf : j_Mf ρ m h h).tr st27
    conv => whnf
    exact ⟨trivial, ⟨by (try dsimp only); omega, by (try dsimp only); omega⟩, ⟨f28_0, tH26, aH26⟩, congrArg (fun r => some (j_i r)) (by rw [show a.toNatClampNeg = 10 by omega, z_lq10]; rfl)⟩
