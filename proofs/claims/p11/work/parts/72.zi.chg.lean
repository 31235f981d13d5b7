/-! the model's changed: word for word -/
set_option maxHeartbeats 4000000 in
set_option maxRecDepth 20000 in
theorem c_Mo_changedz {ρ : Nat → Nat} {h : j_H} {m P G R Q : Nat} {a b : Int32} (w : j_MX ρ h m P G R Q) (V : z_V (z_d h m P G R Q)) (B : z_B (z_d h m P G R Q)) : j_Ct 170 3 61 1 4 [j_r (some m), j_i a, j_i b] h (z_MQ m P G R Q h (q_pace a b) (z_chg (z_d h m P G R Q) a b) (z_d h m P G R Q)) j_no := by
  refine j_intro km_170 (Nat.le_of_ble_eq_true rfl) ?_
  intro J hJ hF
  have q0 : (Int32.ofInt 0).toInt = 0 := by decide
  have q1 : (Int32.ofInt 1).toInt = 1 := by decide
  have q2 : (Int32.ofInt 2).toInt = 2 := by decide
  have q200 : ((Int16.ofInt 200).toInt32).toInt = 200 := by decide
  have L : (0 ≤ a.toInt ∧ a.toInt ≤ 1) → (2 ≤ b.toInt ∧ b.toInt ≤ 200) → ∀ (k i n : Nat) (v : Int32) (hh : j_H) (cn sn : Nat), j_Mf ρ m h hh → j_it hh m 0 = Int32.ofInt 0 → j_Ir hh i R (n : Int) → v = z_cnt (z_mis (z_d h m P G R Q) a b) n → cn ≤ 1 → sn ≤ 4 → ((j_it hh R 2).toInt - n).toNat < k → J 48 [some (j_r (some m)), some (j_i a), some (j_i b), some (j_i v), some (j_r (some i)), none] [] hh cn sn := by
    intro ha hb k
    induction k with
    | zero => intro i n v hh cn sn f t r hv hc hs hk; omega
    | succ k ih =>
      intro i n v hh cn sn f t r hv hc hs hk
      have w1 := w.f f
      have wb := w1.b
      have r0 := r
      obtain ⟨ki, r3, m2, c0, n0, nz⟩ := r0
      refine hJ [48, 113] 400 _ _ _ _ _ _ ?_
      conv => whnf
      refine ⟨ki, rfl, _, _, _, _, _, _, c_IT_hasNext ki r3 w1.lR.1, ⟨Nat.le_of_ble_eq_true rfl, Nat.le_of_ble_eq_true rfl, by (try dsimp only); omega, by (try dsimp only); omega⟩, fun _ _ z => False.elim z, ?_⟩
      rintro v9 h9 ⟨e9, b9, rfl, hb9⟩
      obtain rfl : hh = h9 := e9.symm
      conv => whnf
      refine ⟨fun c => ?_, fun c => ?_⟩
      · have c : b9.toInt = 0 := c
        have en : n = ((z_d h m P G R Q).1 1).toNatClampNeg := by
          have e1 : j_it hh R 2 = (z_d h m P G R Q).1 1 := (z_mfd w f).1 1 (by decide)
          rw [← e1]
          have := j_clamp (i := j_it hh R 2) (by omega)
          omega
        conv => whnf
        refine ⟨trivial, ⟨by (try dsimp only); omega, by (try dsimp only); omega⟩, z_MQ.ok ⟨ρ, w1⟩ (f.mg w) t ((j_cqp (show a.toInt = 0 ∨ a.toInt = 1 by omega)).trans (j_cqp hb)) (z_mfd w f) ?_⟩
        rw [hv, en]
        rfl
      · have c : ¬ b9.toInt = 0 := c
        have hn : (n : Int) < (j_it hh R 2).toInt := by omega
        conv => whnf
        refine ⟨ki, rfl, _, _, _, _, _, _, c_IT_next ki r3 m2 w1.lR (by omega) (by omega), ⟨Nat.le_of_ble_eq_true rfl, Nat.le_of_ble_eq_true rfl, by (try dsimp only); omega, by (try dsimp only); omega⟩, fun _ _ z => False.elim z, ?_⟩
        rintro v9 h9 ⟨⟨e, arr, rfl, ke, a1, a2⟩, e9⟩
        have he : z_ml hh R n = e := by
          have en : (j_it hh i 0).toNatClampNeg = n := by have := j_clamp (i := j_it hh i 0) (by omega); omega
          rw [en] at a2
          exact z_ml_of a1 a2
        obtain ⟨st, rn⟩ := r.next (ρ := ρ) (m := m) w1.km w1.lR.1 hn (by omega)
        have t9 : j_it h9 m 0 = Int32.ofInt 0 := by
          rw [e9]
          have ni : m ≠ i := fun z => by have := w1.km; rw [z, ki] at this; cases this
          exact ((j_up_ne _ _ ni 0).1).trans (((j_up_ne _ _ ni 0).1).trans t)
        rw [← e9] at st rn
        have ke9 := st.kd ke
        have z9 := congrArg Int32.toInt (st.sz w1.lR.1)
        have he9 : z_ml h9 R n = e := (z_ml_f st w1.lR hn).trans he
        have hn9 : (n : Int) < (j_it h9 R 2).toInt := by omega
        have f9 := f.tr st
        have w9 := w.f f9
        have nP := w9.nP
        have E9 := z_mfd w f9
        have V9 := V.eq E9
        have B9 := B.eq E9
        have mz : z_mis (z_d h9 m P G R Q) a b n = z_mis (z_d h m P G R Q) a b n := z_mis_c E9 hn9
        have back0 : ∀ (cn sn : Nat), z_mis (z_d h9 m P G R Q) a b n = false → cn ≤ 1 → sn ≤ 4 → J 48 [some (j_r (some m)), some (j_i a), some (j_i b), some (j_i v), some (j_r (some i)), none] [] h9 cn sn := fun cn sn q hc hs => ih i (n + 1) v h9 cn sn f9 t9 rn (by rw [z_cn0 (mz.symm.trans q)]; exact hv) hc hs (by omega)
        have back1 : ∀ (cn sn : Nat), z_mis (z_d h9 m P G R Q) a b n = true → cn ≤ 1 → sn ≤ 4 → J 48 [some (j_r (some m)), some (j_i a), some (j_i b), some (j_i (v + Int32.ofInt 1)), some (j_r (some i)), none] [] h9 cn sn := fun cn sn q hc hs => ih i (n + 1) (v + Int32.ofInt 1) h9 cn sn f9 t9 rn (by rw [z_cn1 (mz.symm.trans q), hv]) hc hs (by omega)
        have back2 : ∀ (cn sn : Nat), z_mis (z_d h9 m P G R Q) a b n = false → cn ≤ 1 → sn ≤ 4 → J 48 [some (j_r (some m)), some (j_i a), some (j_i b), some (j_i (v + Int32.ofInt 0)), some (j_r (some i)), none] [] h9 cn sn := fun cn sn q hc hs => ih i (n + 1) (v + Int32.ofInt 0) h9 cn sn f9 t9 rn (by rw [z_cn0 (mz.symm.trans q), hv]; exact Int32.add_zero _) hc hs (by omega)
        clear ih
        have d1 : (z_d h9 m P G R Q).2.2.2.1 n 1 = j_it h9 e 1 := by rw [← he9]; rfl
        conv => whnf
        refine ⟨Or.inr ⟨_, rfl, ke9⟩, ?_⟩
        conv => whnf
        refine ⟨_, rfl, ke9, fun x ex => ?_⟩
        have r6 : (z_d h9 m P G R Q).2.2.2.1 n 6 = if x.toInt = 0 then Int32.ofInt 1 else Int32.ofInt 0 := by rw [← ex, ← he9]; rfl
        conv => whnf
        refine ⟨fun c2 => ?_, fun c2 => ?_⟩
        · have c2 : ¬ x.toInt = 0 := c2
          exact j_use hF (back0 _ _ (z_mis6 (by rw [r6, if_neg c2, q0])) (by (try dsimp only); omega) (by (try dsimp only); omega)) (And.intro rfl (And.intro rfl (And.intro rfl (And.intro rfl (And.intro rfl trivial)))))
        have c2 : ¬ ¬ x.toInt = 0 := c2
        conv => whnf
        refine ⟨_, rfl, ke9, fun x2 ex2 => ?_⟩
        have r1 : (z_d h9 m P G R Q).2.2.2.1 n 1 = x2 := d1.trans ex2
        conv => whnf
        refine ⟨fun c3 => ?_, fun c3 => ?_⟩
        rotate_left
        · have c3 : ¬ x2.toInt = a.toInt := c3
          exact j_use hF (back0 _ _ (z_mis1 (by rw [r1]; exact c3)) (by (try dsimp only); omega) (by (try dsimp only); omega)) (And.intro rfl (And.intro rfl (And.intro rfl (And.intro rfl (And.intro rfl trivial)))))
        have c3 : x2.toInt = a.toInt := c3
        have me := z_misE (z := z_d h9 m P G R Q) (c := a) (p := b) (k := n) (by rw [r6, if_pos (Classical.not_not.mp c2), q1]; decide) (by rw [r1]; exact c3)
        have x2a : x2 = a := Int32.toInt_inj.mp c3
        have vP : j_it h9 P a.toNatClampNeg = z_tp (z_d h9 m P G R Q) n := by
          unfold z_tp
          rw [r1, x2a]
          exact z_pmx (ρ := ρ) ha
        have vB := V9.tp ((z_d h9 m P G R Q).2.2.2.1 n 1)
        obtain ⟨Ea, hEa⟩ : ∃ r, r = z_te b ((z_d h9 m P G R Q).2.2.2.1 n 2) ((z_d h9 m P G R Q).2.2.2.1 n 3) ((z_d h9 m P G R Q).2.2.2.1 n 4) := ⟨_, rfl⟩
        obtain ⟨La, hLa⟩ : ∃ r, r = z_tl b ((z_d h9 m P G R Q).2.2.2.1 n 2) ((z_d h9 m P G R Q).2.2.2.1 n 3) ((z_d h9 m P G R Q).2.2.2.1 n 4) := ⟨_, rfl⟩
        obtain ⟨En, hEn⟩ : ∃ r, r = z_te (z_tp (z_d h9 m P G R Q) n) ((z_d h9 m P G R Q).2.2.2.1 n 2) ((z_d h9 m P G R Q).2.2.2.1 n 3) ((z_d h9 m P G R Q).2.2.2.1 n 4) := ⟨_, rfl⟩
        obtain ⟨Ln, hLn⟩ : ∃ r, r = z_tl (z_tp (z_d h9 m P G R Q) n) ((z_d h9 m P G R Q).2.2.2.1 n 2) ((z_d h9 m P G R Q).2.2.2.1 n 3) ((z_d h9 m P G R Q).2.2.2.1 n 4) := ⟨_, rfl⟩
        have bEa : 0 ≤ Ea.toInt ∧ Ea.toInt ≤ 3000 := by rw [hEa]; exact z_te_b
        have bLa : 0 ≤ La.toInt ∧ La.toInt ≤ 3000 := by rw [hLa]; exact z_tl_b
        have bEn : 0 ≤ En.toInt ∧ En.toInt ≤ 3000 := by rw [hEn]; exact z_te_b
        have bLn : 0 ≤ Ln.toInt ∧ Ln.toInt ≤ 3000 := by rw [hLn]; exact z_tl_b
        rw [← hEa, ← hLa, ← hEn, ← hLn] at me
        obtain ⟨Y, hY⟩ : ∃ r, r = (z_d h9 m P G R Q).1 6 := ⟨_, rfl⟩
        obtain ⟨U, hU⟩ : ∃ r, r = ((z_d h9 m P G R Q).2.2.2.1 n 5) := ⟨_, rfl⟩
        have bY : 0 ≤ Y.toInt ∧ Y.toInt ≤ 3000 := by rw [hY]; exact B9.1
        have bU : 0 ≤ U.toInt ∧ U.toInt ≤ 3000 := by rw [hU]; exact B9.2.2 n hn9
        have sEa := z_yr bEa bY bU
        have sLa := z_yr bLa bY bU
        have sEn := z_yr bEn bY bU
        have sLn := z_yr bLn bY bU
        have mid : ¬ Ln.toInt < Ea.toInt → J 113 [some (j_r (some m)), some (j_i a), some (j_i b), some (j_i v), some (j_r (some i)), some (j_r (some e))] [j_i v] h9 cn sn := by
          intro nl
          refine hJ [48] 400 _ _ _ _ _ _ ?_
          conv => whnf
          refine ⟨_, rfl, w9.km, fun o eo => ?_⟩
          obtain rfl : o = some P := eo.symm.trans w9.eP
          conv => whnf
          refine ⟨_, _, rfl, w9.kP, rfl, j_vp (by omega) (by omega), fun p ep => ?_⟩
          obtain rfl : p = z_tp (z_d h9 m P G R Q) n := ep.symm.trans vP
          conv => whnf
          refine ⟨w9.km, rfl, _, _, _, _, _, _, c_Mo_earlyx w9 ke9 V9 hn9 he9 vB.1, ⟨Nat.le_of_ble_eq_true rfl, Nat.le_of_ble_eq_true rfl, by (try dsimp only); omega, by (try dsimp only); omega⟩, fun _ _ z => False.elim z, ?_⟩
          rintro v8 h8 ⟨e8, er⟩
          obtain rfl : v8 = some (j_i ((En + Y) - U)) := er.trans (congrArg (fun r => some (j_i r)) (by rw [hEn, hY, hU]))
          obtain rfl : h9 = h8 := e8.symm
          conv => whnf
          refine ⟨w9.km, rfl, _, _, _, _, _, _, c_Mo_latex w9 ke9 V9 hn9 he9 hb.1, ⟨Nat.le_of_ble_eq_true rfl, Nat.le_of_ble_eq_true rfl, by (try dsimp only); omega, by (try dsimp only); omega⟩, fun _ _ z => False.elim z, ?_⟩
          rintro v8 h8 ⟨e8, er⟩
          obtain rfl : v8 = some (j_i ((La + Y) - U)) := er.trans (congrArg (fun r => some (j_i r)) (by rw [hLa, hY, hU]))
          obtain rfl : h9 = h8 := e8.symm
          conv => whnf
          refine ⟨fun c4 => ?_, fun c4 => ?_⟩
          · have c4 : ((En + Y) - U).toInt ≤ ((La + Y) - U).toInt := c4
            exact j_use hF (back2 _ _ (by rw [me, decide_eq_false nl, decide_eq_false (show ¬ La.toInt < En.toInt by omega)]; rfl) (by (try dsimp only); omega) (by (try dsimp only); omega)) (And.intro rfl (And.intro rfl (And.intro rfl (And.intro rfl (And.intro rfl trivial)))))
          · have c4 : ¬ ((En + Y) - U).toInt ≤ ((La + Y) - U).toInt := c4
            exact j_use hF (back1 _ _ (by rw [me, decide_eq_true (show La.toInt < En.toInt by omega), Bool.true_or]) (by (try dsimp only); omega) (by (try dsimp only); omega)) (And.intro rfl (And.intro rfl (And.intro rfl (And.intro rfl (And.intro rfl trivial)))))
        conv => whnf
        refine ⟨w9.km, rfl, _, _, _, _, _, _, c_Mo_earlyx w9 ke9 V9 hn9 he9 hb.1, ⟨Nat.le_of_ble_eq_true rfl, Nat.le_of_ble_eq_true rfl, by (try dsimp only); omega, by (try dsimp only); omega⟩, fun _ _ z => False.elim z, ?_⟩
        rintro v8 h8 ⟨e8, er⟩
        obtain rfl : v8 = some (j_i ((Ea + Y) - U)) := er.trans (congrArg (fun r => some (j_i r)) (by rw [hEa, hY, hU]))
        obtain rfl : h9 = h8 := e8.symm
        conv => whnf
        refine ⟨_, rfl, w9.km, fun o eo => ?_⟩
        obtain rfl : o = some P := eo.symm.trans w9.eP
        conv => whnf
        refine ⟨_, _, rfl, w9.kP, rfl, j_vp (by omega) (by omega), fun p ep => ?_⟩
        obtain rfl : p = z_tp (z_d h9 m P G R Q) n := ep.symm.trans vP
        conv => whnf
        refine ⟨w9.km, rfl, _, _, _, _, _, _, c_Mo_latex w9 ke9 V9 hn9 he9 vB.1, ⟨Nat.le_of_ble_eq_true rfl, Nat.le_of_ble_eq_true rfl, by (try dsimp only); omega, by (try dsimp only); omega⟩, fun _ _ z => False.elim z, ?_⟩
        rintro v8 h8 ⟨e8, er⟩
        obtain rfl : v8 = some (j_i ((Ln + Y) - U)) := er.trans (congrArg (fun r => some (j_i r)) (by rw [hLn, hY, hU]))
        obtain rfl : h9 = h8 := e8.symm
        conv => whnf
        refine ⟨fun c4 => ?_, fun c4 => ?_⟩
        · have c4 : ((Ln + Y) - U).toInt < ((Ea + Y) - U).toInt := c4
          exact j_use hF (back1 _ _ (by rw [me, decide_eq_true (show Ln.toInt < Ea.toInt by omega), Bool.or_true]) (by (try dsimp only); omega) (by (try dsimp only); omega)) (And.intro rfl (And.intro rfl (And.intro rfl (And.intro rfl (And.intro rfl trivial)))))
        · have c4 : ¬ ((Ln + Y) - U).toInt < ((Ea + Y) - U).toInt := c4
          exact mid (by omega)
  have wb := w.b
  refine hJ [48] 400 _ _ _ _ _ _ ?_
  conv => whnf
  refine ⟨_, rfl, w.km, ?_⟩
  show j_go _ _ _ _ _ _ _ _ _ _ (j_up h m 0 (j_i (Int32.ofInt (0)))) _ _
  have st1 : j_Mf ρ m h (j_up h m 0 (j_i (Int32.ofInt (0)))) := j_Mf.fi w.km (by decide)
  have tH1 : j_it (j_up h m 0 (j_i (Int32.ofInt (0)))) m 0 = Int32.ofInt 0 := j_upi
  generalize j_up h m 0 (j_i (Int32.ofInt (0))) = h1 at st1 tH1 ⊢
  have w1 := w.f st1
  have wb1 := w1.b
  conv => whnf
  refine ⟨rfl, _, _, _, _, _, _, c_Mo_isx, ⟨Nat.le_of_ble_eq_true rfl, Nat.le_of_ble_eq_true rfl, Nat.le_of_ble_eq_true rfl, Nat.le_of_ble_eq_true rfl⟩, fun _ _ z => False.elim z, ?_⟩
  rintro v9 h9 ⟨e9, r, rfl, zr⟩
  have mr := j_zx zr
  obtain rfl : h1 = h9 := e9.symm
  conv => whnf
  refine ⟨fun c => ?_, fun c => ?_⟩
  rotate_left
  · have c : ¬ ¬ r.toInt = 0 := c
    conv => whnf
    refine ⟨w1.km, rfl, _, _, _, _, _, _, c_Mo_refusex w1.km, ⟨Nat.le_of_ble_eq_true rfl, Nat.le_of_ble_eq_true rfl, Nat.le_of_ble_eq_true rfl, Nat.le_of_ble_eq_true rfl⟩, fun _ _ z => False.elim z, ?_⟩
    rintro v8 h8 ⟨rfl, e8⟩
    have st8 : j_Mf ρ m h1 h8 := by rw [e8]; exact j_Mf.fi w1.km (by decide)
    have t8 : j_it h8 m 0 = Int32.ofInt 1 := by rw [e8]; exact j_upi
    conv => whnf
    exact ⟨trivial, ⟨Nat.le_of_ble_eq_true rfl, Nat.le_of_ble_eq_true rfl⟩, z_MQ.no w (st1.tr st8) t8 (j_cqn (fun z => by omega)) (by decide)⟩
  have c : ¬ r.toInt = 0 := c
  conv => whnf
  refine ⟨rfl, _, _, _, _, _, _, c_Mo_isx, ⟨Nat.le_of_ble_eq_true rfl, Nat.le_of_ble_eq_true rfl, Nat.le_of_ble_eq_true rfl, Nat.le_of_ble_eq_true rfl⟩, fun _ _ z => False.elim z, ?_⟩
  rintro v9 h9 ⟨e9, r2, rfl, zr2⟩
  have mr2 := j_zx zr2
  obtain rfl : h1 = h9 := e9.symm
  conv => whnf
  refine ⟨fun c2 => ?_, fun c2 => ?_⟩
  rotate_left
  · have c2 : ¬ ¬ r2.toInt = 0 := c2
    conv => whnf
    refine ⟨w1.km, rfl, _, _, _, _, _, _, c_Mo_refusex w1.km, ⟨Nat.le_of_ble_eq_true rfl, Nat.le_of_ble_eq_true rfl, Nat.le_of_ble_eq_true rfl, Nat.le_of_ble_eq_true rfl⟩, fun _ _ z => False.elim z, ?_⟩
    rintro v8 h8 ⟨rfl, e8⟩
    have st8 : j_Mf ρ m h1 h8 := by rw [e8]; exact j_Mf.fi w1.km (by decide)
    have t8 : j_it h8 m 0 = Int32.ofInt 2 := by rw [e8]; exact j_upi
    conv => whnf
    exact ⟨trivial, ⟨Nat.le_of_ble_eq_true rfl, Nat.le_of_ble_eq_true rfl⟩, z_MQ.no w (st1.tr st8) t8 ((j_cqp (show a.toInt = 0 ∨ a.toInt = 1 by omega)).trans (j_cqn (fun z => by omega))) (by decide)⟩
  have c2 : ¬ r2.toInt = 0 := c2
  conv => whnf
  refine ⟨_, rfl, w1.km, fun o eo => ?_⟩
  obtain rfl : o = some R := eo.symm.trans w1.eR
  conv => whnf
  refine ⟨w1.lR.1, rfl, _, _, _, _, _, _, c_AL_iterator w1.lR.1, ⟨Nat.le_of_ble_eq_true rfl, Nat.le_of_ble_eq_true rfl, Nat.le_of_ble_eq_true rfl, Nat.le_of_ble_eq_true rfl⟩, fun _ _ z => False.elim z, ?_⟩
  rintro v9 h9 ⟨i, rfl, hi, o, od, ki, r3, m2, c0⟩
  have kR9 : j_kd h9 R = some (.inl 3) := (o.2 R (j_nn w1.lR.1)).1.trans w1.lR.1
  have zR9 : j_it h9 R 2 = j_it h1 R 2 := ((o.2 R (j_nn w1.lR.1)).2.2 (fun z => z) 2).1
  have t9 : j_it h9 m 0 = Int32.ofInt 0 := (((o.2 m (j_nn w1.km)).2.2 (fun z => z) 0).1).trans tH1
  obtain ⟨st, r0⟩ := j_Ir.new (ρ := ρ) w1.km kR9 hi o od ki r3 m2 c0 (by rw [zR9]; omega)
  exact j_use hF (L ⟨by omega, by omega⟩ ⟨by omega, by omega⟩ 100 i 0 (Int32.ofInt 0) h9 _ _ (st1.tr st) t9 r0 rfl (Nat.le_of_ble_eq_true rfl) (Nat.le_of_ble_eq_true rfl) (by rw [zR9]; omega)) (And.intro rfl (And.intro rfl (And.intro rfl (And.intro rfl (And.intro rfl trivial)))))
