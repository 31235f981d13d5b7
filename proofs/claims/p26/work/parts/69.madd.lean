/-! the model: grain, run, print -/
def j_gZ (ρ : Nat → Nat) (h : j_H) (e : Nat) : Prop := ∀ k, k < 4 → ∃ b, j_rf h e k = some b ∧ j_kd h b = some (.inr 0) ∧ j_ln h b = 2 ∧ ρ b = 0
theorem j_MX.roleQ {ρ : Nat → Nat} {h : j_H} {m P G R Q b : Nat} (w : j_MX ρ h m P G R Q) (kb : j_kd h b = some (.inr 0)) (rb : ρ b = 0) : ∃ ρ', j_MX ρ' h m P G R Q ∧ ρ' b = 3 := by
  refine ⟨fun q => if q = b then 3 else ρ q, w.role (fun q => ?_), if_pos rfl⟩
  by_cases hq : q = b
  · subst hq; exact Or.inr ⟨rb, j_nn kb⟩
  · exact Or.inl (if_neg hq)
/-- a grain whose first K arrays are made -/
def j_Gi (h h' : j_H) (e K : Nat) : Prop := j_On (fun q => q = e) h h' ∧ (∀ q c, j_kd h' q = some (.inl c) → j_kd h q = some (.inl c)) ∧ ∀ k, k < K → ∃ b, j_rf h' e k = some b ∧ j_kd h' b = some (.inr 0) ∧ j_ln h' b = 2 ∧ j_kd h b = none
theorem j_Gi.rf {h : j_H} {e : Nat} : j_Gi h h e 0 := ⟨j_On.rf, fun _ _ z => z, fun k hk => by omega⟩
theorem j_Gi.st {h h' : j_H} {e K b n : Nat} (ke : j_kd h e = some (.inl 10)) (g : j_Gi h h' e K) (hb : j_kd h' b = none) (hn : n = 2) : j_Gi h (j_up (j_nw h' b (.inr 0) n) e K (j_r (some b))) e (K + 1) := by
  obtain ⟨o, nk, el⟩ := g
  have ke' : j_kd h' e = some (.inl 10) := (o.2 e (j_nn ke)).1.trans ke
  have nb : e ≠ b := fun z => by rw [z, hb] at ke'; cases ke'
  refine ⟨(o.trans ((j_On.nw hb).mono (fun _ _ z => z))).trans (j_On.up rfl), fun q c hq => ?_, fun k hk => ?_⟩
  · by_cases z : q = b
    · have hq : (if q = b then some (Sum.inr 0) else j_kd h' q) = some (.inl c) := hq
      rw [if_pos z] at hq; cases hq
    · exact nk q c ((if_neg z).symm.trans hq)
  · by_cases z : k = K
    · subst z
      refine ⟨b, j_upr, if_pos rfl, (if_pos rfl).trans hn, ?_⟩
      cases y : j_kd h b with
      | none => rfl
      | some s => rw [(o.2 b (j_nn y)).1, y] at hb; cases hb
    · obtain ⟨d, d1, d2, d3, d4⟩ := el k (by omega)
      have nd : d ≠ b := fun q => by rw [q, hb] at d2; cases d2
      exact ⟨d, (j_upn z).trans ((if_neg nb).trans d1), (if_neg nd).trans d2, (if_neg nd).trans d3, d4⟩
/-- what the new grain holds: arrays apart, all 0; the rest as it was -/
def j_Gx (h h' : j_H) (e K : Nat) : Prop := (∀ k b, k < K → j_rf h' e k = some b → ∀ i, j_it h' b i = Int32.ofInt 0) ∧ (∀ k u b, k < K → u < K → j_rf h' e k = some b → j_rf h' e u = some b → k = u) ∧ ∀ f, j_it h' e f = j_it h e f
theorem j_Gx.rf {h : j_H} {e : Nat} : j_Gx h h e 0 := ⟨fun k b hk => by omega, fun k u b hk => by omega, fun _ => rfl⟩
theorem j_Gx.st {h h' : j_H} {e K b n : Nat} (ke : j_kd h e = some (.inl 10)) (g : j_Gi h h' e K) (x : j_Gx h h' e K) (hb : j_kd h' b = none) : j_Gx h (j_up (j_nw h' b (.inr 0) n) e K (j_r (some b))) e (K + 1) := by
  obtain ⟨o, nk, el⟩ := g
  obtain ⟨x1, x2, x3⟩ := x
  have ke' : j_kd h' e = some (.inl 10) := (o.2 e (j_nn ke)).1.trans ke
  have nb : e ≠ b := fun z => by rw [z, hb] at ke'; cases ke'
  have rK : j_rf (j_up (j_nw h' b (.inr 0) n) e K (j_r (some b))) e K = some b := j_upr
  have rk : ∀ k, k ≠ K → j_rf (j_up (j_nw h' b (.inr 0) n) e K (j_r (some b))) e k = j_rf h' e k := fun k hk => (j_upn hk).trans (if_neg nb)
  have im : ∀ q f, j_it (j_up (j_nw h' b (.inr 0) n) e K (j_r (some b))) q f = if q = b then 0 else j_it h' q f := fun q f => rfl
  have no : ∀ k, k < K → ¬ j_rf h' e k = some b := fun k hk z => by
    obtain ⟨d, d1, d2, -⟩ := el k hk
    rw [z] at d1
    obtain rfl : b = d := Option.some.inj d1
    rw [hb] at d2; cases d2
  refine ⟨fun k d hk hd i => ?_, fun k u d hk hu h1 h2 => ?_, fun f => ?_⟩
  · rw [im]
    by_cases z : d = b
    · rw [if_pos z]; rfl
    · rw [if_neg z]
      by_cases y : k = K
      · rw [y, rK] at hd
        exact absurd (Option.some.inj hd).symm z
      · rw [rk k y] at hd
        exact x1 k d (by omega) hd i
  · by_cases y : k = K
    · by_cases v : u = K
      · rw [y, v]
      · rw [y, rK] at h1
        rw [rk u v, ← h1] at h2
        exact absurd h2 (no u (by omega))
    · by_cases v : u = K
      · rw [v, rK] at h2
        rw [rk k y, ← h2] at h1
        exact absurd h1 (no k (by omega))
      · rw [rk k y] at h1
        rw [rk u v] at h2
        exact x2 k u d (by omega) (by omega) h1 h2
  · rw [im, if_neg nb]
    exact x3 f
set_option maxRecDepth 20000 in
theorem c_MGrain_initx {h : j_H} {e : Nat} (ke : j_kd h e = some (.inl 10)) : j_Ct 228 1 20 4 8 [j_r (some e)] h (fun v h' => v = none ∧ j_Gi h h' e 4 ∧ j_Gx h h' e 4) j_no := by
  have cl : (Int32.ofInt 2).toNatClampNeg = 2 := by decide
  refine j_intro km_228 (Nat.le_of_ble_eq_true rfl) ?_
  intro J hJ hF
  refine hJ [] 400 _ _ _ _ _ _ ?_
  conv => whnf
  refine ⟨_, rfl, ⟨Nat.le_of_ble_eq_true rfl, Nat.le_of_ble_eq_true rfl⟩, ?_⟩
  conv => whnf
  refine ⟨⟨by decide, by decide⟩, ⟨Nat.le_of_ble_eq_true rfl, Nat.le_of_ble_eq_true rfl⟩, fun b0 hb0 => ?_⟩
  have g1 := (j_Gi.rf (h := h) (e := e)).st ke hb0 cl
  have y1 := (j_Gx.rf (h := h) (e := e)).st ke j_Gi.rf hb0 (n := (Int32.ofInt 2).toNatClampNeg)
  have k1 := (g1.1.2 e (j_nn ke)).1.trans ke
  conv => whnf
  refine ⟨_, rfl, k1, ?_⟩
  conv => whnf
  refine ⟨⟨by decide, by decide⟩, ⟨Nat.le_of_ble_eq_true rfl, Nat.le_of_ble_eq_true rfl⟩, fun b1 hb1 => ?_⟩
  have g2 := g1.st ke hb1 cl
  have y2 := y1.st ke g1 hb1 (n := (Int32.ofInt 2).toNatClampNeg)
  have k2 := (g2.1.2 e (j_nn ke)).1.trans ke
  conv => whnf
  refine ⟨_, rfl, k2, ?_⟩
  conv => whnf
  refine ⟨⟨by decide, by decide⟩, ⟨Nat.le_of_ble_eq_true rfl, Nat.le_of_ble_eq_true rfl⟩, fun b2 hb2 => ?_⟩
  have g3 := g2.st ke hb2 cl
  have y3 := y2.st ke g2 hb2 (n := (Int32.ofInt 2).toNatClampNeg)
  have k3 := (g3.1.2 e (j_nn ke)).1.trans ke
  conv => whnf
  refine ⟨_, rfl, k3, ?_⟩
  conv => whnf
  refine ⟨⟨by decide, by decide⟩, ⟨Nat.le_of_ble_eq_true rfl, Nat.le_of_ble_eq_true rfl⟩, fun b3 hb3 => ?_⟩
  have g4 := g3.st ke hb3 cl
  have y4 := y3.st ke g3 hb3 (n := (Int32.ofInt 2).toNatClampNeg)
  have k4 := (g4.1.2 e (j_nn ke)).1.trans ke
  conv => whnf
  refine ⟨_, rfl, k4, ?_⟩
  conv => whnf
  exact ⟨rfl, ⟨Nat.le_of_ble_eq_true rfl, Nat.le_of_ble_eq_true rfl⟩, rfl, g4, y4⟩
/-- a new grain, made -/
theorem j_Gi.mf {ρ : Nat → Nat} {h h' : j_H} {m P G R Q e : Nat} (w : j_MX ρ h m P G R Q) (he : j_kd h e = none) (g : j_Gi (j_nw h e (.inl 10) 0) h' e 4) : j_Mf ρ m h h' ∧ j_kd h' e = some (.inl 10) ∧ j_gZ ρ h' e := by
  obtain ⟨o, nk, el⟩ := g
  have ke : j_kd (j_nw h e (.inl 10) 0) e = some (.inl 10) := if_pos rfl
  refine ⟨j_Mf.on w.km (((j_On.nw (S := fun q => q = e) he).trans o).mono (fun q hq z => hq (by rw [z]; exact he))) (fun q c z h3 h9 => ?_), (o.2 e (j_nn ke)).1.trans ke, fun k hk => ?_⟩
  · have z := nk q c z
    by_cases y : q = e
    · rw [y, ke] at z; cases z; omega
    · exact (if_neg y).symm.trans z
  · obtain ⟨b, b1, b2, b3, b4⟩ := el k hk
    refine ⟨b, b1, b2, b3, w.rz b ?_⟩
    by_cases y : b = e
    · rw [y]; exact he
    · exact (if_neg y).symm.trans b4
set_option maxRecDepth 20000 in
theorem c_MRun_init {h : j_H} {e : Nat} : j_Ct 229 1 20 0 0 [j_r (some e)] h (fun v h' => v = none ∧ h' = h) j_no := by
  refine j_intro km_229 (Nat.le_of_ble_eq_true rfl) ?_
  intro J hJ hF
  refine hJ [] 400 _ _ _ _ _ _ ?_
  conv => whnf
  refine ⟨_, rfl, ⟨Nat.le_of_ble_eq_true rfl, Nat.le_of_ble_eq_true rfl⟩, ?_⟩
  conv => whnf
  exact ⟨rfl, ⟨Nat.le_of_ble_eq_true rfl, Nat.le_of_ble_eq_true rfl⟩, rfl, rfl⟩

theorem j_Gi.t0 {h h' : j_H} {m e K : Nat} (km : j_kd h m = some (.inl 12)) (he : j_kd h e = none) (g : j_Gi (j_nw h e (.inl 10) 0) h' e K) : j_it h' m 0 = j_it h m 0 := by
  have ne : m ≠ e := fun z => by rw [z, he] at km; cases km
  have k2 : j_kd (j_nw h e (.inl 10) 0) m = some (.inl 12) := (if_neg ne).trans km
  exact ((g.1.2 m (j_nn k2)).2.2 ne 0).1.trans (if_neg ne)
theorem j_zw {r : Int32} {p q : Prop} (z : (p ∧ q ∧ r = Int32.ofInt 1) ∨ (¬ (p ∧ q) ∧ r = Int32.ofInt 0)) : r = 0 ∨ r = 1 := by
  rcases z with ⟨_, _, e⟩ | ⟨_, e⟩
  · exact Or.inr e
  · exact Or.inl e
set_option maxRecDepth 20000 in
theorem c_Mo_isGrainx {ρ : Nat → Nat} {h : j_H} {m P G R Q : Nat} {a : Int32} (w : j_MX ρ h m P G R Q) : j_Ct 183 1 22 0 0 [j_r (some m), j_i a] h (fun v h' => h' = h ∧ ∃ r, v = some (j_i r) ∧ (((0 ≤ a.toInt ∧ a.toInt < (j_it h G 2).toInt) ∧ r = Int32.ofInt 1) ∨ (¬ (0 ≤ a.toInt ∧ a.toInt < (j_it h G 2).toInt) ∧ r = Int32.ofInt 0))) j_no := by
  refine j_intro km_183 (Nat.le_of_ble_eq_true rfl) ?_
  intro J hJ hF
  have wb := w.b
  have z0 : (Int32.ofInt 0).toInt = 0 := by decide
  have zs := j_sub1 (x := j_it h G 2) (by omega)
  refine hJ [] 400 _ _ _ _ _ _ ?_
  conv => whnf
  refine ⟨_, rfl, w.km, fun o eo => ?_⟩
  obtain rfl : o = some G := eo.symm.trans w.eG
  conv => whnf
  refine ⟨w.lG.1, rfl, _, _, _, _, _, _, c_AL_size (h := h) w.lG j_Sc.rf j_sf_ok, ⟨Nat.le_of_ble_eq_true rfl, Nat.le_of_ble_eq_true rfl, Nat.le_of_ble_eq_true rfl, Nat.le_of_ble_eq_true rfl⟩, fun _ _ z => False.elim z, ?_⟩
  rintro v9 h9 ⟨e9, rfl⟩
  obtain rfl : h = h9 := e9.symm
  conv => whnf
  refine ⟨rfl, _, _, _, _, _, _, c_Mo_isx, ⟨Nat.le_of_ble_eq_true rfl, Nat.le_of_ble_eq_true rfl, Nat.le_of_ble_eq_true rfl, Nat.le_of_ble_eq_true rfl⟩, fun _ _ z => False.elim z, ?_⟩
  rintro v9 h9 ⟨e9, r, rfl, zr⟩
  obtain rfl : h = h9 := e9.symm
  conv => whnf
  refine ⟨j_zw zr, ⟨Nat.le_of_ble_eq_true rfl, Nat.le_of_ble_eq_true rfl⟩, rfl, r, rfl, ?_⟩
  rcases zr with ⟨q1, q2, q3⟩ | ⟨q1, q2⟩
  · exact Or.inl ⟨⟨by omega, by omega⟩, q3⟩
  · exact Or.inr ⟨by omega, q2⟩
theorem j_zy {p : Prop} {r : Int32} (z : (p ∧ r = Int32.ofInt 1) ∨ (¬ p ∧ r = Int32.ofInt 0)) : (¬ r.toInt = 0 ∧ p) ∨ (r.toInt = 0 ∧ ¬ p) := by
  rcases z with ⟨q1, q2⟩ | ⟨q1, q2⟩
  · exact Or.inl ⟨by rw [q2]; decide, q1⟩
  · exact Or.inr ⟨by rw [q2]; decide, q1⟩
set_option maxHeartbeats 4000000 in
set_option maxRecDepth 20000 in
theorem c_Mo_grainz {ρ : Nat → Nat} {h : j_H} {m P G R Q : Nat} {a : Int32} {b : Int32} {c : Int32} (w : j_MX ρ h m P G R Q)  : j_Ct 180 7 157 6 60 [j_r (some m), j_i a, j_i b, j_i c] h (z_MQ m P G R Q h (q_grain (j_am h m P G R) a b c) (j_am h m P G R 0) (n_grainz (z_d h m P G R Q) a b c)) j_no := by
  refine j_intro km_180 (Nat.le_of_ble_eq_true rfl) ?_
  intro J hJ hF
  have wb := w.b
  refine hJ [] 400 _ _ _ _ _ _ ?_
  conv => whnf
  refine ⟨_, rfl, w.km, ?_⟩
  show j_go _ _ _ _ _ _ _ _ _ _ (j_up h m 0 (j_i (Int32.ofInt (0)))) _ _
  have st1 : j_Mf ρ m h (j_up h m 0 (j_i (Int32.ofInt (0)))) := j_Mf.fi w.km (by decide)
  have tH1 : j_it (j_up h m 0 (j_i (Int32.ofInt (0)))) m 0 = Int32.ofInt 0 := j_upi
  generalize j_up h m 0 (j_i (Int32.ofInt (0))) = H1 at st1 tH1 ⊢
  have zG1 := congrArg Int32.toInt (st1.sz w.lG.1)
  have zR1 := congrArg Int32.toInt (st1.sz w.lR.1)
  have zQ1 := congrArg Int32.toInt (st1.sz w.lQ.1)
  have w1 := w.f st1
  have f1_0 := (j_Mf.rf : j_Mf ρ m h h).tr st1
  have q2 : (Int32.ofInt (0)).toInt = 0 := by decide
  have q3 : ((Int16.ofInt (9999)).toInt32).toInt = 9999 := by decide
  conv => whnf
  refine ⟨rfl, _, _, _, _, _, _, c_Mo_isx, ⟨Nat.le_of_ble_eq_true rfl, Nat.le_of_ble_eq_true rfl, Nat.le_of_ble_eq_true rfl, Nat.le_of_ble_eq_true rfl⟩, fun _ _ z => False.elim z, ?_⟩
  rintro v9 h9 ⟨e9, r4, rfl, zr4⟩
  have mr4 := j_zx zr4
  obtain rfl : H1 = h9 := e9.symm
  conv => whnf
  refine ⟨fun c5 => ?_, fun c5 => ?_⟩
  · have c5 : (r4).toInt = 0 := c5
    have q6 : (Int32.ofInt (1)).toInt = 1 := by decide
    conv => whnf
    refine ⟨w1.km, rfl, _, _, _, _, _, _, c_Mo_refusex w1.km, ⟨Nat.le_of_ble_eq_true rfl, Nat.le_of_ble_eq_true rfl, Nat.le_of_ble_eq_true rfl, Nat.le_of_ble_eq_true rfl⟩, fun _ _ z => False.elim z, ?_⟩
    rintro v9 H8 ⟨rfl, eH8⟩
    have st9 : j_Mf ρ m H1 H8 := by rw [eH8]; exact j_Mf.fi w1.km (by decide)
    have tH8 : j_it H8 m 0 = Int32.ofInt 1 := by rw [eH8]; exact j_upi
    have zG10 := congrArg Int32.toInt (st9.sz w1.lG.1)
    have zR10 := congrArg Int32.toInt (st9.sz w1.lR.1)
    have zQ10 := congrArg Int32.toInt (st9.sz w1.lQ.1)
    have w10 := w1.f st9
    have f10_0 := f1_0.tr st9
    conv => whnf
    exact ⟨trivial, ⟨Nat.le_of_ble_eq_true rfl, Nat.le_of_ble_eq_true rfl⟩, z_MQ.no w f10_0 tH8 (j_cqn (fun z => by obtain ⟨z1, z2, z3⟩ := z; omega)) (by decide)⟩
  · have c5 : ¬ (r4).toInt = 0 := c5
    have q11 : (Int32.ofInt (0)).toInt = 0 := by decide
    have q12 : ((Int16.ofInt (9999)).toInt32).toInt = 9999 := by decide
    conv => whnf
    refine ⟨rfl, _, _, _, _, _, _, c_Mo_isx, ⟨Nat.le_of_ble_eq_true rfl, Nat.le_of_ble_eq_true rfl, Nat.le_of_ble_eq_true rfl, Nat.le_of_ble_eq_true rfl⟩, fun _ _ z => False.elim z, ?_⟩
    rintro v9 h9 ⟨e9, r13, rfl, zr13⟩
    have mr13 := j_zx zr13
    obtain rfl : H1 = h9 := e9.symm
    conv => whnf
    refine ⟨fun c14 => ?_, fun c14 => ?_⟩
    · have c14 : (r13).toInt = 0 := c14
      have q15 : (Int32.ofInt (1)).toInt = 1 := by decide
      conv => whnf
      refine ⟨w1.km, rfl, _, _, _, _, _, _, c_Mo_refusex w1.km, ⟨Nat.le_of_ble_eq_true rfl, Nat.le_of_ble_eq_true rfl, Nat.le_of_ble_eq_true rfl, Nat.le_of_ble_eq_true rfl⟩, fun _ _ z => False.elim z, ?_⟩
      rintro v9 H17 ⟨rfl, eH17⟩
      have st18 : j_Mf ρ m H1 H17 := by rw [eH17]; exact j_Mf.fi w1.km (by decide)
      have tH17 : j_it H17 m 0 = Int32.ofInt 1 := by rw [eH17]; exact j_upi
      have zG19 := congrArg Int32.toInt (st18.sz w1.lG.1)
      have zR19 := congrArg Int32.toInt (st18.sz w1.lR.1)
      have zQ19 := congrArg Int32.toInt (st18.sz w1.lQ.1)
      have w19 := w1.f st18
      have f19_0 := f1_0.tr st18
      conv => whnf
      exact ⟨trivial, ⟨Nat.le_of_ble_eq_true rfl, Nat.le_of_ble_eq_true rfl⟩, z_MQ.no w f19_0 tH17 (j_cqn (fun z => by obtain ⟨z1, z2, z3⟩ := z; omega)) (by decide)⟩
    · have c14 : ¬ (r13).toInt = 0 := c14
      have q20 : (Int32.ofInt (0)).toInt = 0 := by decide
      have q21 : (Int32.ofInt (5)).toInt = 5 := by decide
      conv => whnf
      refine ⟨rfl, _, _, _, _, _, _, c_Mo_isx, ⟨Nat.le_of_ble_eq_true rfl, Nat.le_of_ble_eq_true rfl, Nat.le_of_ble_eq_true rfl, Nat.le_of_ble_eq_true rfl⟩, fun _ _ z => False.elim z, ?_⟩
      rintro v9 h9 ⟨e9, r22, rfl, zr22⟩
      have mr22 := j_zx zr22
      obtain rfl : H1 = h9 := e9.symm
      conv => whnf
      refine ⟨fun c23 => ?_, fun c23 => ?_⟩
      · have c23 : ¬ (r22).toInt = 0 := c23
        conv => whnf
        refine ⟨_, rfl, w1.km, fun o24 eo => ?_⟩
        obtain rfl : o24 = some G := eo.symm.trans w1.eG
        conv => whnf
        refine ⟨w1.lG.1, rfl, _, _, _, _, _, _, c_AL_size (h := H1) w1.lG j_Sc.rf j_sf_ok, ⟨Nat.le_of_ble_eq_true rfl, Nat.le_of_ble_eq_true rfl, Nat.le_of_ble_eq_true rfl, Nat.le_of_ble_eq_true rfl⟩, fun _ _ z => False.elim z, ?_⟩
        rintro v9 h9 ⟨e9, rfl⟩
        obtain rfl : H1 = h9 := e9.symm
        have q25 : ((Int8.ofInt (8)).toInt32).toInt = 8 := by decide
        conv => whnf
        refine ⟨fun c26 => ?_, fun c26 => ?_⟩
        · have c26 : ¬ ((j_it H1 G 2)).toInt = ((Int8.ofInt (8)).toInt32).toInt := c26
          conv => whnf
          refine ⟨⟨Nat.le_of_ble_eq_true rfl, Nat.le_of_ble_eq_true rfl⟩, fun e27 he27 => ?_⟩
          conv => whnf
          refine ⟨trivial, rfl, _, _, _, _, _, _, c_MGrain_initx (if_pos rfl), ⟨Nat.le_of_ble_eq_true rfl, Nat.le_of_ble_eq_true rfl, Nat.le_of_ble_eq_true rfl, Nat.le_of_ble_eq_true rfl⟩, fun _ _ z => False.elim z, ?_⟩
          rintro v9 h9 ⟨rfl, gi, gx⟩
          obtain ⟨st28, ke27, fee27⟩ := j_Gi.mf (ρ := ρ) w1 he27 gi
          have tH28 : j_it h9 m 0 = Int32.ofInt 0 := (j_Gi.t0 w1.km he27 gi).trans tH1
          have e6 : j_it h9 e27 6 = Int32.ofInt 0 := (gx.2.2 6).trans (if_pos rfl)
          have re27 : ρ e27 = 0 := w1.rz e27 he27
          obtain ⟨H28, eh28⟩ : ∃ q, q = h9 := ⟨_, rfl⟩
          rw [← eh28] at st28 ke27 fee27 tH28 gx e6 ⊢
          have w29 := w1.f st28
          have f29_0 := f1_0.tr st28
          obtain ⟨b0, eb0, kb0, nb0, rb0⟩ := fee27 0 (by decide)
          obtain ⟨b1, eb1, kb1, nb1, rb1⟩ := fee27 1 (by decide)
          obtain ⟨b2, eb2, kb2, nb2, rb2⟩ := fee27 2 (by decide)
          obtain ⟨b3, eb3, kb3, nb3, rb3⟩ := fee27 3 (by decide)
          have n03 : b0 ≠ b3 := fun z => absurd (gx.2.1 0 3 b0 (by decide) (by decide) eb0 (by rw [z]; exact eb3)) (by decide)
          have n10 : b1 ≠ b0 := fun z => absurd (gx.2.1 1 0 b1 (by decide) (by decide) eb1 (by rw [z]; exact eb0)) (by decide)
          have n13 : b1 ≠ b3 := fun z => absurd (gx.2.1 1 3 b1 (by decide) (by decide) eb1 (by rw [z]; exact eb3)) (by decide)
          have n20 : b2 ≠ b0 := fun z => absurd (gx.2.1 2 0 b2 (by decide) (by decide) eb2 (by rw [z]; exact eb0)) (by decide)
          have n23 : b2 ≠ b3 := fun z => absurd (gx.2.1 2 3 b2 (by decide) (by decide) eb2 (by rw [z]; exact eb3)) (by decide)
          have ne : ∀ b, j_kd H28 b = some (.inr 0) → b ≠ e27 := fun b kb z => by rw [z, ke27] at kb; cases kb
          have nme : m ≠ e27 := fun z => by have := w29.km; rw [z, ke27] at this; cases this
          have nmb : ∀ b, j_kd H28 b = some (.inr 0) → m ≠ b := fun b kb z => by have := w29.km; rw [z, kb] at this; cases this
          have cc0 : (Int32.ofInt 0).toNatClampNeg = 0 := by decide
          have cc1 : (Int32.ofInt 1).toNatClampNeg = 1 := by decide
          have va0 : vp_in (Int32.ofInt 0) (j_ln H28 b0) := by rw [nb0]; exact j_vp (by decide) (by decide)
          have va1 : vp_in (Int32.ofInt 1) (j_ln H28 b0) := by rw [nb0]; exact j_vp (by decide) (by decide)
          have vb0 : vp_in (Int32.ofInt 0) (j_ln H28 b3) := by rw [nb3]; exact j_vp (by decide) (by decide)
          have vb1 : vp_in (Int32.ofInt 1) (j_ln H28 b3) := by rw [nb3]; exact j_vp (by decide) (by decide)
          conv => whnf
          refine ⟨_, rfl, ke27, fun o30 eo => ?_⟩
          obtain rfl : o30 = some b0 := eo.symm.trans eb0
          conv => whnf
          refine ⟨_, rfl, kb0, va0, ?_⟩
          conv => whnf
          refine ⟨_, rfl, ke27, fun o34 eo => ?_⟩
          obtain rfl : o34 = some b0 := eo.symm.trans eb0
          conv => whnf
          refine ⟨_, rfl, kb0, va1, ?_⟩
          conv => whnf
          refine ⟨_, rfl, ke27, fun o38 eo => ?_⟩
          obtain rfl : o38 = some b3 := eo.symm.trans eb3
          conv => whnf
          refine ⟨_, rfl, kb3, vb0, ?_⟩
          conv => whnf
          refine ⟨_, rfl, ke27, fun o42 eo => ?_⟩
          obtain rfl : o42 = some b3 := eo.symm.trans eb3
          conv => whnf
          refine ⟨_, rfl, kb3, vb1, ?_⟩
          conv => whnf
          refine ⟨_, rfl, w29.km, fun x46 ex46 => ?_⟩
          conv => whnf
          refine ⟨_, rfl, ke27, ?_⟩
          conv => whnf
          refine ⟨_, rfl, ke27, ?_⟩
          show j_go _ _ _ _ _ _ _ _ _ _ (j_wi H28 (j_u (j_u (j_u (j_u (j_u (j_u (j_it H28) b0 (Int32.ofInt 0).toNatClampNeg a) b0 (Int32.ofInt 1).toNatClampNeg b) b3 (Int32.ofInt 0).toNatClampNeg a) b3 (Int32.ofInt 1).toNatClampNeg b) e27 4 x46) e27 5 c)) _ _
          have vx46 : x46 = (z_d h m P G R Q).1 6 := by
            have q : j_u (j_u (j_u (j_u (j_it H28) b0 (Int32.ofInt 0).toNatClampNeg a) b0 (Int32.ofInt 1).toNatClampNeg b) b3 (Int32.ofInt 0).toNatClampNeg a) b3 (Int32.ofInt 1).toNatClampNeg b m 2 = x46 := ex46
            rw [j_u_ne (nmb b3 kb3), j_u_ne (nmb b3 kb3), j_u_ne (nmb b0 kb0), j_u_ne (nmb b0 kb0)] at q
            exact q.symm.trans (f29_0.2.1.2 2 (Or.inl rfl))
          clear ex46
          rw [cc0, cc1]
          generalize eit : j_u (j_u (j_u (j_u (j_u (j_u (j_it H28) b0 0 a) b0 1 b) b3 0 a) b3 1 b) e27 4 x46) e27 5 c = it
          have X : ∀ q f, it q f = if q = e27 ∧ f = 5 then c else if q = e27 ∧ f = 4 then x46 else if q = b3 ∧ f = 1 then b else if q = b3 ∧ f = 0 then a else if q = b0 ∧ f = 1 then b else if q = b0 ∧ f = 0 then a else j_it H28 q f := fun q f => by
            rw [← eit, j_uq, j_uq, j_uq, j_uq, j_uq, j_uq]
          have O : ∀ q f, q ≠ e27 → q ≠ b3 → q ≠ b0 → it q f = j_it H28 q f := fun q f h1 h2 h3 => by
            rw [X, if_neg (fun z => h1 z.1), if_neg (fun z => h1 z.1), if_neg (fun z => h2 z.1), if_neg (fun z => h2 z.1), if_neg (fun z => h3 z.1), if_neg (fun z => h3 z.1)]
          clear eit
          have F48 : j_Mf ρ m H28 (j_wi H28 it) := j_Mf.wi0 w29.km (fun q f hq => by
            by_cases z1 : q = e27
            · rw [z1]; exact Or.inr ⟨re27, Or.inr (Or.inl ke27)⟩
            · by_cases z2 : q = b3
              · rw [z2]; exact Or.inr ⟨rb3, Or.inl kb3⟩
              · by_cases z3 : q = b0
                · rw [z3]; exact Or.inr ⟨rb0, Or.inl kb0⟩
                · exact Or.inl (O q f z1 z2 z3))
          have f48_0 := f29_0.tr F48
          have w48 := w29.f F48
          have tH48 : j_it (j_wi H28 it) m 0 = Int32.ofInt 0 := (O m 0 nme (nmb b3 kb3) (nmb b0 kb0)).trans tH28
          have V : ∀ t b', t < 4 → j_rf H28 e27 t = some b' → ∀ i, i < 2 → it b' i = if t = 0 ∨ t = 3 then (if i = 0 then a else b) else Int32.ofInt 0 := fun t b' ht hb i hi => by
            match t, ht with
            | 0, _ =>
              obtain rfl : b0 = b' := Option.some.inj (eb0.symm.trans hb)
              rw [if_pos (Or.inl rfl), X, if_neg (fun z => ne b0 kb0 z.1), if_neg (fun z => ne b0 kb0 z.1), if_neg (fun z => n03 z.1), if_neg (fun z => n03 z.1)]
              match i, hi with
              | 0, _ => rw [if_neg (fun z => absurd z.2 (by decide)), if_pos ⟨rfl, rfl⟩, if_pos rfl]
              | 1, _ => rw [if_pos ⟨rfl, rfl⟩, if_neg (by decide)]
              | n + 2, hi => omega
            | 1, _ =>
              obtain rfl : b1 = b' := Option.some.inj (eb1.symm.trans hb)
              rw [if_neg (by decide), O b1 i (ne b1 kb1) n13 n10]
              exact gx.1 1 b1 (by decide) eb1 i
            | 2, _ =>
              obtain rfl : b2 = b' := Option.some.inj (eb2.symm.trans hb)
              rw [if_neg (by decide), O b2 i (ne b2 kb2) n23 n20]
              exact gx.1 2 b2 (by decide) eb2 i
            | 3, _ =>
              obtain rfl : b3 = b' := Option.some.inj (eb3.symm.trans hb)
              rw [if_pos (Or.inr rfl), X, if_neg (fun z => ne b3 kb3 z.1), if_neg (fun z => ne b3 kb3 z.1)]
              match i, hi with
              | 0, _ => rw [if_neg (fun z => absurd z.2 (by decide)), if_pos ⟨rfl, rfl⟩, if_pos rfl]
              | 1, _ => rw [if_pos ⟨rfl, rfl⟩, if_neg (by decide)]
              | n + 2, hi => omega
            | n + 4, ht => omega
          have W : ∀ f, f < 3 → it e27 (z_df f) = if f = 0 then c else if f = 1 then (z_d h m P G R Q).1 6 else Int32.ofInt 0 := fun f hf => by
            match f, hf with
            | 0, _ => exact (X e27 5).trans (if_pos ⟨rfl, rfl⟩)
            | 1, _ =>
              refine (X e27 4).trans ?_
              rw [if_neg (fun z => absurd z.2 (by decide)), if_pos ⟨rfl, rfl⟩]
              exact vx46
            | 2, _ =>
              refine (X e27 6).trans ?_
              rw [if_neg (fun z => absurd z.2 (by decide)), if_neg (fun z => absurd z.2 (by decide)), if_neg (fun z => absurd z.2 (by decide)), if_neg (fun z => absurd z.2 (by decide)), if_neg (fun z => absurd z.2 (by decide)), if_neg (fun z => absurd z.2 (by decide))]
              exact e6
            | n + 3, hf => omega
          clear X
          obtain ⟨H48, eH48⟩ : ∃ q, q = j_wi H28 it := ⟨_, rfl⟩
          have rf48 : ∀ k, j_rf H48 e27 k = j_rf H28 e27 k := fun k => by rw [eH48]
          have k48 : ∀ q, j_kd H48 q = j_kd H28 q := fun q => by rw [eH48]
          have it48 : ∀ q f, j_it H48 q f = it q f := fun q f => by rw [eH48]
          have ln48 : ∀ q, j_ln H48 q = j_ln H28 q := fun q => by rw [eH48]
          rw [← eH48] at f48_0 w48 tH48 ⊢
          have ke48 : j_kd H48 e27 = some (.inl 10) := (k48 e27).trans ke27
          have zG48 := congrArg Int32.toInt (f48_0.sz w.lG.1)
          have zb := w48.b
          obtain ⟨ρ1, eρ⟩ : ∃ r : Nat → Nat, ∀ q, r q = if q = b0 ∨ q = b1 ∨ q = b2 ∨ q = b3 then 2 else if q = e27 then 1000 + (j_it H48 G 2).toNatClampNeg else ρ q := ⟨_, fun _ => rfl⟩
          have w1 : j_MX ρ1 H48 m P G R Q := w48.role (fun q => by
            rw [eρ]
            by_cases z : q = b0 ∨ q = b1 ∨ q = b2 ∨ q = b3
            · refine Or.inr ?_
              rcases z with z | z | z | z
              · rw [z]; exact ⟨rb0, j_nn ((k48 _).trans kb0)⟩
              · rw [z]; exact ⟨rb1, j_nn ((k48 _).trans kb1)⟩
              · rw [z]; exact ⟨rb2, j_nn ((k48 _).trans kb2)⟩
              · rw [z]; exact ⟨rb3, j_nn ((k48 _).trans kb3)⟩
            · rw [if_neg z]
              by_cases y : q = e27
              · rw [y]; exact Or.inr ⟨re27, j_nn ke48⟩
              · rw [if_neg y]; exact Or.inl rfl)
          have re : ρ1 e27 = 1000 + (j_it H48 G 2).toNatClampNeg := by
            rw [eρ, if_neg (fun z => by
              rcases z with z | z | z | z
              · exact ne _ kb0 z.symm
              · exact ne _ kb1 z.symm
              · exact ne _ kb2 z.symm
              · exact ne _ kb3 z.symm), if_pos rfl]
          have ga : j_gA ρ1 H48 e27 := fun k hk => by
            match k, hk with
            | 0, _ => exact ⟨b0, (rf48 0).trans eb0, (k48 _).trans kb0, (ln48 _).trans nb0, by rw [eρ, if_pos (Or.inl rfl)]⟩
            | 1, _ => exact ⟨b1, (rf48 1).trans eb1, (k48 _).trans kb1, (ln48 _).trans nb1, by rw [eρ, if_pos (Or.inr (Or.inl rfl))]⟩
            | 2, _ => exact ⟨b2, (rf48 2).trans eb2, (k48 _).trans kb2, (ln48 _).trans nb2, by rw [eρ, if_pos (Or.inr (Or.inr (Or.inl rfl)))]⟩
            | 3, _ => exact ⟨b3, (rf48 3).trans eb3, (k48 _).trans kb3, (ln48 _).trans nb3, by rw [eρ, if_pos (Or.inr (Or.inr (Or.inr rfl)))]⟩
            | n + 4, hk => omega
          have el4 : ∀ t u b', t < 4 → u < 4 → j_rf H48 e27 t = some b' → j_rf H48 e27 u = some b' → t = u := fun t u b' ht hu h1 h2 => gx.2.1 t u b' ht hu ((rf48 t).symm.trans h1) ((rf48 u).symm.trans h2)
          have eS : ∀ t b', t < 4 → j_rf H48 e27 t = some b' → ρ b' = 0 := fun t b' ht h1 => by
            obtain ⟨d, d1, d2, d3, d4⟩ := fee27 t ht
            obtain rfl : d = b' := Option.some.inj (d1.symm.trans ((rf48 t).symm.trans h1))
            exact d4
          have oS : j_ea H48 G (fun _ y => ∀ t b', t < 4 → j_rf H48 y t = some b' → ¬ ρ b' = 0) := w48.aG.mono (fun j y g t b' ht h1 => by
            obtain ⟨d, d1, d2, d3, d4⟩ := g t ht
            obtain rfl : d = b' := Option.some.inj (d1.symm.trans h1)
            omega)
          conv => whnf
          refine ⟨_, rfl, w48.km, fun o49 eo => ?_⟩
          obtain rfl : o49 = some G := eo.symm.trans w48.eG
          obtain ⟨kL, z0, z1, arr, t, e1, e2, e3, e4, e5, eJ⟩ := id w1.lG
          conv => whnf
          refine ⟨kL, rfl, _, _, _, _, _, _, c_AL_add_53 kL e1 e2 e3 e5.2 z0 e4 (by omega) e5.1 (fun j hj => by obtain ⟨y, y1, y2⟩ := eJ j hj; exact ⟨y, y1, Or.inl ⟨_, y2⟩⟩) (Or.inl ⟨_, ke48⟩), ⟨Nat.le_of_ble_eq_true rfl, Nat.le_of_ble_eq_true rfl, Nat.le_of_ble_eq_true rfl, Nat.le_of_ble_eq_true rfl⟩, fun _ _ z => False.elim z, ?_⟩
          rintro v9 H50 ⟨⟨rr9, rfl⟩, ad⟩
          have wz := w1.adG (S := fun q => ρ q = 0) re el4 eS oS e1 ad (by omega) ke48 ga
          have zz := wz.b
          have iR := (ad.li kL e1 e2 w1.ap.1 w1.lR).2.1 1
          have iQ := (ad.li kL e1 e2 w1.ap.2.1 w1.lQ).2.1 1
          have mg : j_Mg m G R Q h H50 := j_Mg.ad w f48_0 ad (Or.inl rfl) e1 e2 e3 (fun L9 q n => by
            rcases q with rfl | rfl | rfl
            · exact absurd rfl n
            · exact iR.2
            · exact iQ.2)
          have sE := ad.st kL e2 e3 ke48 (Or.inr ⟨_, rfl, by decide⟩)
          have zq : z_eq (z_d H50 m P G R Q) (n_grainz (z_d h m P G R Q) a b c) := (z_addG w1 e1 ad).tr (n_addG_c (z_mfd w f48_0) (show (j_it H48 G 2).toInt < 100 by omega) (fun i t hi ht => by
              obtain ⟨d, d1, d2, d3, d4⟩ := fee27 t ht
              rw [(sE.2.2 t).2, rf48, d1, Option.getD_some, ((ad.st kL e2 e3 ((k48 d).trans d2) (Or.inl rfl)).2.2 i).1, it48]
              exact V t d ht d1 i hi) (fun f hf => by
              rw [(sE.2.2 _).1, it48]
              exact W f hf))
          conv => whnf
          refine ⟨_, rfl, wz.km, fun o51 eo => ?_⟩
          obtain rfl : o51 = some G := eo.symm.trans wz.eG
          conv => whnf
          refine ⟨wz.lG.1, rfl, _, _, _, _, _, _, c_AL_size (h := H50) wz.lG j_Sc.rf j_sf_ok, ⟨Nat.le_of_ble_eq_true rfl, Nat.le_of_ble_eq_true rfl, Nat.le_of_ble_eq_true rfl, Nat.le_of_ble_eq_true rfl⟩, fun _ _ z => False.elim z, ?_⟩
          rintro v9 h9 ⟨e9, rfl⟩
          obtain rfl : H50 = h9 := e9.symm
          have tH50 : j_it H50 m 0 = Int32.ofInt 0 := ((ad.st kL e2 e3 w1.km (Or.inr ⟨_, rfl, by decide⟩)).2.2 0).1.trans tH48
          conv => whnf
          exact ⟨trivial, ⟨Nat.le_of_ble_eq_true rfl, Nat.le_of_ble_eq_true rfl⟩, z_MQ.ok ⟨_, wz⟩ mg tH50 ((j_cqp ⟨by omega, by omega, by omega⟩).trans (j_cqp (show (j_it h G 2).toInt < 8 by omega))) zq (by rw [show j_it H50 G 2 = j_am h m P G R 0 + Int32.ofInt 1 from zq.1 0 (by decide)]; exact Int32.add_sub_cancel _ _)⟩
        · have c26 : ¬ ¬ ((j_it H1 G 2)).toInt = ((Int8.ofInt (8)).toInt32).toInt := c26
          have q53 : (Int32.ofInt (2)).toInt = 2 := by decide
          conv => whnf
          refine ⟨w1.km, rfl, _, _, _, _, _, _, c_Mo_refusex w1.km, ⟨Nat.le_of_ble_eq_true rfl, Nat.le_of_ble_eq_true rfl, Nat.le_of_ble_eq_true rfl, Nat.le_of_ble_eq_true rfl⟩, fun _ _ z => False.elim z, ?_⟩
          rintro v9 H55 ⟨rfl, eH55⟩
          have st56 : j_Mf ρ m H1 H55 := by rw [eH55]; exact j_Mf.fi w1.km (by decide)
          have tH55 : j_it H55 m 0 = Int32.ofInt 2 := by rw [eH55]; exact j_upi
          have zG57 := congrArg Int32.toInt (st56.sz w1.lG.1)
          have zR57 := congrArg Int32.toInt (st56.sz w1.lR.1)
          have zQ57 := congrArg Int32.toInt (st56.sz w1.lQ.1)
          have w57 := w1.f st56
          have f57_0 := f1_0.tr st56
          conv => whnf
          exact ⟨trivial, ⟨Nat.le_of_ble_eq_true rfl, Nat.le_of_ble_eq_true rfl⟩, z_MQ.no w f57_0 tH55 ((j_cqp ⟨by omega, by omega, by omega⟩).trans (j_cqn (show ¬ (j_it h G 2).toInt < 8 by omega))) (by decide)⟩
      · have c23 : ¬ ¬ (r22).toInt = 0 := c23
        have q58 : (Int32.ofInt (1)).toInt = 1 := by decide
        conv => whnf
        refine ⟨w1.km, rfl, _, _, _, _, _, _, c_Mo_refusex w1.km, ⟨Nat.le_of_ble_eq_true rfl, Nat.le_of_ble_eq_true rfl, Nat.le_of_ble_eq_true rfl, Nat.le_of_ble_eq_true rfl⟩, fun _ _ z => False.elim z, ?_⟩
        rintro v9 H60 ⟨rfl, eH60⟩
        have st61 : j_Mf ρ m H1 H60 := by rw [eH60]; exact j_Mf.fi w1.km (by decide)
        have tH60 : j_it H60 m 0 = Int32.ofInt 1 := by rw [eH60]; exact j_upi
        have zG62 := congrArg Int32.toInt (st61.sz w1.lG.1)
        have zR62 := congrArg Int32.toInt (st61.sz w1.lR.1)
        have zQ62 := congrArg Int32.toInt (st61.sz w1.lQ.1)
        have w62 := w1.f st61
        have f62_0 := f1_0.tr st61
        conv => whnf
        exact ⟨trivial, ⟨Nat.le_of_ble_eq_true rfl, Nat.le_of_ble_eq_true rfl⟩, z_MQ.no w f62_0 tH60 (j_cqn (fun z => by obtain ⟨z1, z2, z3⟩ := z; omega)) (by decide)⟩
