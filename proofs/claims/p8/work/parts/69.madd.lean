/-! the model: grain, run, print -/
def j_gZ (ρ : Nat → Nat) (h : j_H) (e : Nat) : Prop := ∀ k, k < 4 → ∃ b, j_rf h e k = some b ∧ j_kd h b = some (.inr 0) ∧ j_ln h b = 2 ∧ ρ b = 0
theorem j_Mf.gZ {ρ : Nat → Nat} {h h1 : j_H} {m e : Nat} (f : j_Mf ρ m h h1) (ke : j_kd h e = some (.inl 10)) (g : j_gZ ρ h e) : j_gZ ρ h1 e := fun k hk => by
  obtain ⟨b, b1, b2, b3, b4⟩ := g k hk
  exact ⟨b, (f.2.2.1 e ke k hk).trans b1, f.kd b2, (f.ln b2).trans b3, b4⟩
theorem j_Mf.rc {ρ : Nat → Nat} {h : j_H} {m e : Nat} {x : Int32} (km : j_kd h m = some (.inl 12)) (ke : j_kd h e = some (.inl 11)) (h0 : 0 ≤ x.toInt) (h1 : x.toInt ≤ 1) : j_Mf ρ m h (j_up h e 1 (j_i x)) := by
  have nm : m ≠ e := fun z => by rw [z, ke] at km; cases km
  refine ⟨j_On.up (Or.inl ⟨11, ke, by decide⟩), ⟨fun _ _ => rfl, fun j _ => (j_up_ne h (j_i x) nm j).1⟩, fun _ _ _ _ => rfl, fun e' he r => ?_, fun b hb _ k => ?_, fun b hb _ k => ?_, fun _ _ z _ _ => z⟩
  · unfold j_rA
    by_cases z : e' = e
    · rw [z, j_upi]; exact ⟨h0, h1⟩
    · rw [(j_up_ne h (j_i x) z 1).1]; exact r
  · have ne : b ≠ e := fun z => by rw [z, ke] at hb; cases hb
    exact (j_up_ne h (j_i x) ne k).1
  · have ne : b ≠ e := fun z => by rw [z, ke] at hb; cases hb
    exact (j_up_ne h (j_i x) ne k).1
theorem j_MX.roleG {ρ : Nat → Nat} {h : j_H} {m P G R Q e : Nat} (w : j_MX ρ h m P G R Q) (fz : j_gZ ρ h e) : ∃ ρ', j_MX ρ' h m P G R Q ∧ j_gA ρ' h e := by
  obtain ⟨b0, x0, y0, n0, z0⟩ := fz 0 (by decide)
  obtain ⟨b1, x1, y1, n1, z1⟩ := fz 1 (by decide)
  obtain ⟨b2, x2, y2, n2, z2⟩ := fz 2 (by decide)
  obtain ⟨b3, x3, y3, n3, z3⟩ := fz 3 (by decide)
  refine ⟨fun q => if q = b0 ∨ q = b1 ∨ q = b2 ∨ q = b3 then 2 else ρ q, w.role (fun q => ?_), fun k hk => ?_⟩
  · by_cases hq : q = b0 ∨ q = b1 ∨ q = b2 ∨ q = b3
    · refine Or.inr ?_
      rcases hq with rfl | rfl | rfl | rfl
      · exact ⟨z0, j_nn y0⟩
      · exact ⟨z1, j_nn y1⟩
      · exact ⟨z2, j_nn y2⟩
      · exact ⟨z3, j_nn y3⟩
    · exact Or.inl (if_neg hq)
  · match k, hk with
    | 0, _ => exact ⟨b0, x0, y0, n0, if_pos (Or.inl rfl)⟩
    | 1, _ => exact ⟨b1, x1, y1, n1, if_pos (Or.inr (Or.inl rfl))⟩
    | 2, _ => exact ⟨b2, x2, y2, n2, if_pos (Or.inr (Or.inr (Or.inl rfl)))⟩
    | 3, _ => exact ⟨b3, x3, y3, n3, if_pos (Or.inr (Or.inr (Or.inr rfl)))⟩
    | n + 4, hk => omega
theorem j_MX.roleQ {ρ : Nat → Nat} {h : j_H} {m P G R Q b : Nat} (w : j_MX ρ h m P G R Q) (kb : j_kd h b = some (.inr 0)) (rb : ρ b = 0) : ∃ ρ', j_MX ρ' h m P G R Q ∧ ρ' b = 3 := by
  refine ⟨fun q => if q = b then 3 else ρ q, w.role (fun q => ?_), if_pos rfl⟩
  by_cases hq : q = b
  · subst hq; exact Or.inr ⟨rb, j_nn kb⟩
  · exact Or.inl (if_neg hq)
/-- a grain whose first K arrays are made -/
def j_Gi (h h' : j_H) (e K : Nat) : Prop := j_On (fun q => q = e) h h' ∧ (∀ q c, j_kd h' q = some (.inl c) → j_kd h q = some (.inl c)) ∧ ∀ k, k < K → ∃ b, j_rf h' e k = some b ∧ j_kd h' b = some (.inr 0) ∧ j_ln h' b = 2 ∧ j_kd h b = none
theorem j_Gi.rf {h : j_H} {e : Nat} : j_Gi h h e 0 := ⟨j_On.rf, fun _ _ z => z, fun k hk => by omega⟩
theorem j_Gi.st {h h' : j_H} {e K b n : Nat} (ke : j_kd h e = some (.inl 10)) (g : j_Gi h h' e K) (hb : j_kd h' b = none) (hn : n = 2) : j_Gi h (j_up (j_nw h' b (.inr 0) n) e K (j_r (some b))) e (K + 1) := by
  obtain ⟨o, nk, el⟩ := g
  have ke' : j_kd h' e = some (.inl 10) := (o.2 e (j_nn ke)).1.trans ke
  have nb : e ≠ b := fun z => by rw [z, hb] at ke'; cases ke'
  refine ⟨(o.trans ((j_On.nw hb).mono (fun _ _ z => z))).trans (j_On.up rfl), fun q c hq => ?_, fun k hk => ?_⟩
  · by_cases z : q = b
    · have hq : (if q = b then some (Sum.inr 0) else j_kd h' q) = some (.inl c) := hq
      rw [if_pos z] at hq; cases hq
    · exact nk q c ((if_neg z).symm.trans hq)
  · by_cases z : k = K
    · subst z
      refine ⟨b, j_upr, if_pos rfl, (if_pos rfl).trans hn, ?_⟩
      cases y : j_kd h b with
      | none => rfl
      | some s => rw [(o.2 b (j_nn y)).1, y] at hb; cases hb
    · obtain ⟨d, d1, d2, d3, d4⟩ := el k (by omega)
      have nd : d ≠ b := fun q => by rw [q, hb] at d2; cases d2
      exact ⟨d, (j_upn z).trans ((if_neg nb).trans d1), (if_neg nd).trans d2, (if_neg nd).trans d3, d4⟩
set_option maxRecDepth 20000 in
theorem c_MGrain_init {h : j_H} {e : Nat} (ke : j_kd h e = some (.inl 10)) : j_Ct 229 1 20 4 8 [j_r (some e)] h (fun v h' => v = none ∧ j_Gi h h' e 4) j_no := by
  have cl : (Int32.ofInt 2).toNatClampNeg = 2 := by decide
  refine j_intro km_229 (Nat.le_of_ble_eq_true rfl) ?_
  intro J hJ hF
  refine hJ [] 400 _ _ _ _ _ _ ?_
  conv => whnf
  refine ⟨_, rfl, ⟨Nat.le_of_ble_eq_true rfl, Nat.le_of_ble_eq_true rfl⟩, ?_⟩
  conv => whnf
  refine ⟨⟨by decide, by decide⟩, ⟨Nat.le_of_ble_eq_true rfl, Nat.le_of_ble_eq_true rfl⟩, fun b0 hb0 => ?_⟩
  have g1 := (j_Gi.rf (h := h) (e := e)).st ke hb0 cl
  have k1 := (g1.1.2 e (j_nn ke)).1.trans ke
  conv => whnf
  refine ⟨_, rfl, k1, ?_⟩
  conv => whnf
  refine ⟨⟨by decide, by decide⟩, ⟨Nat.le_of_ble_eq_true rfl, Nat.le_of_ble_eq_true rfl⟩, fun b1 hb1 => ?_⟩
  have g2 := g1.st ke hb1 cl
  have k2 := (g2.1.2 e (j_nn ke)).1.trans ke
  conv => whnf
  refine ⟨_, rfl, k2, ?_⟩
  conv => whnf
  refine ⟨⟨by decide, by decide⟩, ⟨Nat.le_of_ble_eq_true rfl, Nat.le_of_ble_eq_true rfl⟩, fun b2 hb2 => ?_⟩
  have g3 := g2.st ke hb2 cl
  have k3 := (g3.1.2 e (j_nn ke)).1.trans ke
  conv => whnf
  refine ⟨_, rfl, k3, ?_⟩
  conv => whnf
  refine ⟨⟨by decide, by decide⟩, ⟨Nat.le_of_ble_eq_true rfl, Nat.le_of_ble_eq_true rfl⟩, fun b3 hb3 => ?_⟩
  have g4 := g3.st ke hb3 cl
  have k4 := (g4.1.2 e (j_nn ke)).1.trans ke
  conv => whnf
  refine ⟨_, rfl, k4, ?_⟩
  conv => whnf
  exact ⟨rfl, ⟨Nat.le_of_ble_eq_true rfl, Nat.le_of_ble_eq_true rfl⟩, rfl, g4⟩
/-- a new grain, made -/
theorem j_Gi.mf {ρ : Nat → Nat} {h h' : j_H} {m P G R Q e : Nat} (w : j_MX ρ h m P G R Q) (he : j_kd h e = none) (g : j_Gi (j_nw h e (.inl 10) 0) h' e 4) : j_Mf ρ m h h' ∧ j_kd h' e = some (.inl 10) ∧ j_gZ ρ h' e := by
  obtain ⟨o, nk, el⟩ := g
  have ke : j_kd (j_nw h e (.inl 10) 0) e = some (.inl 10) := if_pos rfl
  refine ⟨j_Mf.on w.km (((j_On.nw (S := fun q => q = e) he).trans o).mono (fun q hq z => hq (by rw [z]; exact he))) (fun q c z h3 h9 => ?_), (o.2 e (j_nn ke)).1.trans ke, fun k hk => ?_⟩
  · have z := nk q c z
    by_cases y : q = e
    · rw [y, ke] at z; cases z; omega
    · exact (if_neg y).symm.trans z
  · obtain ⟨b, b1, b2, b3, b4⟩ := el k hk
    refine ⟨b, b1, b2, b3, w.rz b ?_⟩
    by_cases y : b = e
    · rw [y]; exact he
    · exact (if_neg y).symm.trans b4
set_option maxRecDepth 20000 in
theorem c_MRun_init {h : j_H} {e : Nat} : j_Ct 230 1 20 0 0 [j_r (some e)] h (fun v h' => v = none ∧ h' = h) j_no := by
  refine j_intro km_230 (Nat.le_of_ble_eq_true rfl) ?_
  intro J hJ hF
  refine hJ [] 400 _ _ _ _ _ _ ?_
  conv => whnf
  refine ⟨_, rfl, ⟨Nat.le_of_ble_eq_true rfl, Nat.le_of_ble_eq_true rfl⟩, ?_⟩
  conv => whnf
  exact ⟨rfl, ⟨Nat.le_of_ble_eq_true rfl, Nat.le_of_ble_eq_true rfl⟩, rfl, rfl⟩

theorem j_Gi.t0 {h h' : j_H} {m e K : Nat} (km : j_kd h m = some (.inl 12)) (he : j_kd h e = none) (g : j_Gi (j_nw h e (.inl 10) 0) h' e K) : j_it h' m 0 = j_it h m 0 := by
  have ne : m ≠ e := fun z => by rw [z, he] at km; cases km
  have k2 : j_kd (j_nw h e (.inl 10) 0) m = some (.inl 12) := (if_neg ne).trans km
  exact ((g.1.2 m (j_nn k2)).2.2 ne 0).1.trans (if_neg ne)
theorem j_zw {r : Int32} {p q : Prop} (z : (p ∧ q ∧ r = Int32.ofInt 1) ∨ (¬ (p ∧ q) ∧ r = Int32.ofInt 0)) : r = 0 ∨ r = 1 := by
  rcases z with ⟨_, _, e⟩ | ⟨_, e⟩
  · exact Or.inr e
  · exact Or.inl e
set_option maxRecDepth 20000 in
theorem c_Mo_isGrainx {ρ : Nat → Nat} {h : j_H} {m P G R Q : Nat} {a : Int32} (w : j_MX ρ h m P G R Q) : j_Ct 183 1 22 0 0 [j_r (some m), j_i a] h (fun v h' => h' = h ∧ ∃ r, v = some (j_i r) ∧ (((0 ≤ a.toInt ∧ a.toInt < (j_it h G 2).toInt) ∧ r = Int32.ofInt 1) ∨ (¬ (0 ≤ a.toInt ∧ a.toInt < (j_it h G 2).toInt) ∧ r = Int32.ofInt 0))) j_no := by
  refine j_intro km_183 (Nat.le_of_ble_eq_true rfl) ?_
  intro J hJ hF
  have wb := w.b
  have z0 : (Int32.ofInt 0).toInt = 0 := by decide
  have zs := j_sub1 (x := j_it h G 2) (by omega)
  refine hJ [] 400 _ _ _ _ _ _ ?_
  conv => whnf
  refine ⟨_, rfl, w.km, fun o eo => ?_⟩
  obtain rfl : o = some G := eo.symm.trans w.eG
  conv => whnf
  refine ⟨w.lG.1, rfl, _, _, _, _, _, _, c_AL_size (h := h) w.lG j_Sc.rf j_sf_ok, ⟨Nat.le_of_ble_eq_true rfl, Nat.le_of_ble_eq_true rfl, Nat.le_of_ble_eq_true rfl, Nat.le_of_ble_eq_true rfl⟩, fun _ _ z => False.elim z, ?_⟩
  rintro v9 h9 ⟨e9, rfl⟩
  obtain rfl : h = h9 := e9.symm
  conv => whnf
  refine ⟨rfl, _, _, _, _, _, _, c_Mo_isx, ⟨Nat.le_of_ble_eq_true rfl, Nat.le_of_ble_eq_true rfl, Nat.le_of_ble_eq_true rfl, Nat.le_of_ble_eq_true rfl⟩, fun _ _ z => False.elim z, ?_⟩
  rintro v9 h9 ⟨e9, r, rfl, zr⟩
  obtain rfl : h = h9 := e9.symm
  conv => whnf
  refine ⟨j_zw zr, ⟨Nat.le_of_ble_eq_true rfl, Nat.le_of_ble_eq_true rfl⟩, rfl, r, rfl, ?_⟩
  rcases zr with ⟨q1, q2, q3⟩ | ⟨q1, q2⟩
  · exact Or.inl ⟨⟨by omega, by omega⟩, q3⟩
  · exact Or.inr ⟨by omega, q2⟩
theorem j_zy {p : Prop} {r : Int32} (z : (p ∧ r = Int32.ofInt 1) ∨ (¬ p ∧ r = Int32.ofInt 0)) : (¬ r.toInt = 0 ∧ p) ∨ (r.toInt = 0 ∧ ¬ p) := by
  rcases z with ⟨q1, q2⟩ | ⟨q1, q2⟩
  · exact Or.inl ⟨by rw [q2]; decide, q1⟩
  · exact Or.inr ⟨by rw [q2]; decide, q1⟩
set_option maxHeartbeats 4000000 in
set_option maxRecDepth 20000 in
theorem c_Mo_grainq {ρ : Nat → Nat} {h : j_H} {m P G R Q : Nat} {a : Int32} {b : Int32} {c : Int32} (w : j_MX ρ h m P G R Q)  : j_Ct 180 7 157 6 60 [j_r (some m), j_i a, j_i b, j_i c] h (j_MQ m P G R Q h (q_grain (j_am h m P G R) a b c) (j_am h m P G R 0) (n_grain (j_am h m P G R))) j_no := by
  refine j_intro km_180 (Nat.le_of_ble_eq_true rfl) ?_
  intro J hJ hF
  have wb := w.b
  refine hJ [] 400 _ _ _ _ _ _ ?_
  conv => whnf
  refine ⟨_, rfl, w.km, ?_⟩
  show j_go _ _ _ _ _ _ _ _ _ _ (j_up h m 0 (j_i (Int32.ofInt (0)))) _ _
  have st1 : j_Mf ρ m h (j_up h m 0 (j_i (Int32.ofInt (0)))) := j_Mf.fi w.km (by decide)
  have tH1 : j_it (j_up h m 0 (j_i (Int32.ofInt (0)))) m 0 = Int32.ofInt 0 := j_upi
  generalize j_up h m 0 (j_i (Int32.ofInt (0))) = H1 at st1 tH1 ⊢
  have zG1 := congrArg Int32.toInt (st1.sz w.lG.1)
  have zR1 := congrArg Int32.toInt (st1.sz w.lR.1)
  have zQ1 := congrArg Int32.toInt (st1.sz w.lQ.1)
  have w1 := w.f st1
  have f1_0 := (j_Mf.rf : j_Mf ρ m h h).tr st1
  have q2 : (Int32.ofInt (0)).toInt = 0 := by decide
  have q3 : ((Int16.ofInt (9999)).toInt32).toInt = 9999 := by decide
  conv => whnf
  refine ⟨rfl, _, _, _, _, _, _, c_Mo_isx, ⟨Nat.le_of_ble_eq_true rfl, Nat.le_of_ble_eq_true rfl, Nat.le_of_ble_eq_true rfl, Nat.le_of_ble_eq_true rfl⟩, fun _ _ z => False.elim z, ?_⟩
  rintro v9 h9 ⟨e9, r4, rfl, zr4⟩
  have mr4 := j_zx zr4
  obtain rfl : H1 = h9 := e9.symm
  conv => whnf
  refine ⟨fun c5 => ?_, fun c5 => ?_⟩
  · have c5 : (r4).toInt = 0 := c5
    have q6 : (Int32.ofInt (1)).toInt = 1 := by decide
    conv => whnf
    refine ⟨w1.km, rfl, _, _, _, _, _, _, c_Mo_refusex w1.km, ⟨Nat.le_of_ble_eq_true rfl, Nat.le_of_ble_eq_true rfl, Nat.le_of_ble_eq_true rfl, Nat.le_of_ble_eq_true rfl⟩, fun _ _ z => False.elim z, ?_⟩
    rintro v9 H8 ⟨rfl, eH8⟩
    have st9 : j_Mf ρ m H1 H8 := by rw [eH8]; exact j_Mf.fi w1.km (by decide)
    have tH8 : j_it H8 m 0 = Int32.ofInt 1 := by rw [eH8]; exact j_upi
    have zG10 := congrArg Int32.toInt (st9.sz w1.lG.1)
    have zR10 := congrArg Int32.toInt (st9.sz w1.lR.1)
    have zQ10 := congrArg Int32.toInt (st9.sz w1.lQ.1)
    have w10 := w1.f st9
    have f10_0 := f1_0.tr st9
    conv => whnf
    exact ⟨trivial, ⟨Nat.le_of_ble_eq_true rfl, Nat.le_of_ble_eq_true rfl⟩, j_MQ.no w f10_0 tH8 (j_cqn (fun z => by obtain ⟨z1, z2, z3⟩ := z; omega)) (by decide)⟩
  · have c5 : ¬ (r4).toInt = 0 := c5
    have q11 : (Int32.ofInt (0)).toInt = 0 := by decide
    have q12 : ((Int16.ofInt (9999)).toInt32).toInt = 9999 := by decide
    conv => whnf
    refine ⟨rfl, _, _, _, _, _, _, c_Mo_isx, ⟨Nat.le_of_ble_eq_true rfl, Nat.le_of_ble_eq_true rfl, Nat.le_of_ble_eq_true rfl, Nat.le_of_ble_eq_true rfl⟩, fun _ _ z => False.elim z, ?_⟩
    rintro v9 h9 ⟨e9, r13, rfl, zr13⟩
    have mr13 := j_zx zr13
    obtain rfl : H1 = h9 := e9.symm
    conv => whnf
    refine ⟨fun c14 => ?_, fun c14 => ?_⟩
    · have c14 : (r13).toInt = 0 := c14
      have q15 : (Int32.ofInt (1)).toInt = 1 := by decide
      conv => whnf
      refine ⟨w1.km, rfl, _, _, _, _, _, _, c_Mo_refusex w1.km, ⟨Nat.le_of_ble_eq_true rfl, Nat.le_of_ble_eq_true rfl, Nat.le_of_ble_eq_true rfl, Nat.le_of_ble_eq_true rfl⟩, fun _ _ z => False.elim z, ?_⟩
      rintro v9 H17 ⟨rfl, eH17⟩
      have st18 : j_Mf ρ m H1 H17 := by rw [eH17]; exact j_Mf.fi w1.km (by decide)
      have tH17 : j_it H17 m 0 = Int32.ofInt 1 := by rw [eH17]; exact j_upi
      have zG19 := congrArg Int32.toInt (st18.sz w1.lG.1)
      have zR19 := congrArg Int32.toInt (st18.sz w1.lR.1)
      have zQ19 := congrArg Int32.toInt (st18.sz w1.lQ.1)
      have w19 := w1.f st18
      have f19_0 := f1_0.tr st18
      conv => whnf
      exact ⟨trivial, ⟨Nat.le_of_ble_eq_true rfl, Nat.le_of_ble_eq_true rfl⟩, j_MQ.no w f19_0 tH17 (j_cqn (fun z => by obtain ⟨z1, z2, z3⟩ := z; omega)) (by decide)⟩
    · have c14 : ¬ (r13).toInt = 0 := c14
      have q20 : (Int32.ofInt (0)).toInt = 0 := by decide
      have q21 : (Int32.ofInt (5)).toInt = 5 := by decide
      conv => whnf
      refine ⟨rfl, _, _, _, _, _, _, c_Mo_isx, ⟨Nat.le_of_ble_eq_true rfl, Nat.le_of_ble_eq_true rfl, Nat.le_of_ble_eq_true rfl, Nat.le_of_ble_eq_true rfl⟩, fun _ _ z => False.elim z, ?_⟩
      rintro v9 h9 ⟨e9, r22, rfl, zr22⟩
      have mr22 := j_zx zr22
      obtain rfl : H1 = h9 := e9.symm
      conv => whnf
      refine ⟨fun c23 => ?_, fun c23 => ?_⟩
      · have c23 : ¬ (r22).toInt = 0 := c23
        conv => whnf
        refine ⟨_, rfl, w1.km, fun o24 eo => ?_⟩
        obtain rfl : o24 = some G := eo.symm.trans w1.eG
        conv => whnf
        refine ⟨w1.lG.1, rfl, _, _, _, _, _, _, c_AL_size (h := H1) w1.lG j_Sc.rf j_sf_ok, ⟨Nat.le_of_ble_eq_true rfl, Nat.le_of_ble_eq_true rfl, Nat.le_of_ble_eq_true rfl, Nat.le_of_ble_eq_true rfl⟩, fun _ _ z => False.elim z, ?_⟩
        rintro v9 h9 ⟨e9, rfl⟩
        obtain rfl : H1 = h9 := e9.symm
        have q25 : ((Int8.ofInt (8)).toInt32).toInt = 8 := by decide
        conv => whnf
        refine ⟨fun c26 => ?_, fun c26 => ?_⟩
        · have c26 : ¬ ((j_it H1 G 2)).toInt = ((Int8.ofInt (8)).toInt32).toInt := c26
          conv => whnf
          refine ⟨⟨Nat.le_of_ble_eq_true rfl, Nat.le_of_ble_eq_true rfl⟩, fun e27 he27 => ?_⟩
          conv => whnf
          refine ⟨trivial, rfl, _, _, _, _, _, _, c_MGrain_init (if_pos rfl), ⟨Nat.le_of_ble_eq_true rfl, Nat.le_of_ble_eq_true rfl, Nat.le_of_ble_eq_true rfl, Nat.le_of_ble_eq_true rfl⟩, fun _ _ z => False.elim z, ?_⟩
          rintro v9 h9 ⟨rfl, gi⟩
          obtain ⟨st28, ke27, fee27⟩ := j_Gi.mf (ρ := ρ) w1 he27 gi
          have tH28 : j_it h9 m 0 = Int32.ofInt 0 := (j_Gi.t0 w1.km he27 gi).trans tH1
          obtain ⟨H28, eh28⟩ : ∃ q, q = h9 := ⟨_, rfl⟩
          rw [← eh28] at st28 ke27 fee27 tH28 ⊢
          have zG29 := congrArg Int32.toInt (st28.sz w1.lG.1)
          have zR29 := congrArg Int32.toInt (st28.sz w1.lR.1)
          have zQ29 := congrArg Int32.toInt (st28.sz w1.lQ.1)
          have w29 := w1.f st28
          have f29_0 := f1_0.tr st28
          conv => whnf
          refine ⟨_, rfl, ke27, fun o30 eo => ?_⟩
          obtain ⟨b31, eb31, kb31, nb31, rb31⟩ := fee27 0 (by decide)
          obtain rfl : o30 = some b31 := eo.symm.trans eb31
          have q32 : (Int32.ofInt (0)).toInt = 0 := by decide
          conv => whnf
          refine ⟨_, rfl, kb31, j_vp (by omega) (by omega), ?_⟩
          show j_go _ _ _ _ _ _ _ _ _ _ (j_ui H28 b31 (Int32.ofInt (0)).toNatClampNeg a) _ _
          have st33 : j_Mf ρ m H28 (j_ui H28 b31 (Int32.ofInt (0)).toNatClampNeg a) := j_Mf.ar w29.km kb31 (⟨by omega, fun z => absurd z (by omega)⟩)
          have tH33 : j_it (j_ui H28 b31 (Int32.ofInt (0)).toNatClampNeg a) m 0 = Int32.ofInt 0 := (j_t0i w29.km kb31 (by decide)).trans tH28
          generalize j_ui H28 b31 (Int32.ofInt (0)).toNatClampNeg a = H33 at st33 tH33 ⊢
          have zG33 := congrArg Int32.toInt (st33.sz w29.lG.1)
          have zR33 := congrArg Int32.toInt (st33.sz w29.lR.1)
          have zQ33 := congrArg Int32.toInt (st33.sz w29.lQ.1)
          have fe33_e27 := st33.gZ ke27 fee27
          have k33_e27 := st33.kd ke27
          have w33 := w29.f st33
          have f33_0 := f29_0.tr st33
          conv => whnf
          refine ⟨_, rfl, k33_e27, fun o34 eo => ?_⟩
          obtain ⟨b35, eb35, kb35, nb35, rb35⟩ := fe33_e27 0 (by decide)
          obtain rfl : o34 = some b35 := eo.symm.trans eb35
          have q36 : (Int32.ofInt (1)).toInt = 1 := by decide
          conv => whnf
          refine ⟨_, rfl, kb35, j_vp (by omega) (by omega), ?_⟩
          show j_go _ _ _ _ _ _ _ _ _ _ (j_ui H33 b35 (Int32.ofInt (1)).toNatClampNeg b) _ _
          have st37 : j_Mf ρ m H33 (j_ui H33 b35 (Int32.ofInt (1)).toNatClampNeg b) := j_Mf.ar w33.km kb35 (⟨by omega, fun z => absurd z (by omega)⟩)
          have tH37 : j_it (j_ui H33 b35 (Int32.ofInt (1)).toNatClampNeg b) m 0 = Int32.ofInt 0 := (j_t0i w33.km kb35 (by decide)).trans tH33
          generalize j_ui H33 b35 (Int32.ofInt (1)).toNatClampNeg b = H37 at st37 tH37 ⊢
          have zG37 := congrArg Int32.toInt (st37.sz w33.lG.1)
          have zR37 := congrArg Int32.toInt (st37.sz w33.lR.1)
          have zQ37 := congrArg Int32.toInt (st37.sz w33.lQ.1)
          have fe37_e27 := st37.gZ k33_e27 fe33_e27
          have k37_e27 := st37.kd k33_e27
          have w37 := w33.f st37
          have f37_0 := f33_0.tr st37
          conv => whnf
          refine ⟨_, rfl, k37_e27, fun o38 eo => ?_⟩
          obtain ⟨b39, eb39, kb39, nb39, rb39⟩ := fe37_e27 3 (by decide)
          obtain rfl : o38 = some b39 := eo.symm.trans eb39
          have q40 : (Int32.ofInt (0)).toInt = 0 := by decide
          conv => whnf
          refine ⟨_, rfl, kb39, j_vp (by omega) (by omega), ?_⟩
          show j_go _ _ _ _ _ _ _ _ _ _ (j_ui H37 b39 (Int32.ofInt (0)).toNatClampNeg a) _ _
          have st41 : j_Mf ρ m H37 (j_ui H37 b39 (Int32.ofInt (0)).toNatClampNeg a) := j_Mf.ar w37.km kb39 (⟨by omega, fun z => absurd z (by omega)⟩)
          have tH41 : j_it (j_ui H37 b39 (Int32.ofInt (0)).toNatClampNeg a) m 0 = Int32.ofInt 0 := (j_t0i w37.km kb39 (by decide)).trans tH37
          generalize j_ui H37 b39 (Int32.ofInt (0)).toNatClampNeg a = H41 at st41 tH41 ⊢
          have zG41 := congrArg Int32.toInt (st41.sz w37.lG.1)
          have zR41 := congrArg Int32.toInt (st41.sz w37.lR.1)
          have zQ41 := congrArg Int32.toInt (st41.sz w37.lQ.1)
          have fe41_e27 := st41.gZ k37_e27 fe37_e27
          have k41_e27 := st41.kd k37_e27
          have w41 := w37.f st41
          have f41_0 := f37_0.tr st41
          conv => whnf
          refine ⟨_, rfl, k41_e27, fun o42 eo => ?_⟩
          obtain ⟨b43, eb43, kb43, nb43, rb43⟩ := fe41_e27 3 (by decide)
          obtain rfl : o42 = some b43 := eo.symm.trans eb43
          have q44 : (Int32.ofInt (1)).toInt = 1 := by decide
          conv => whnf
          refine ⟨_, rfl, kb43, j_vp (by omega) (by omega), ?_⟩
          show j_go _ _ _ _ _ _ _ _ _ _ (j_ui H41 b43 (Int32.ofInt (1)).toNatClampNeg b) _ _
          have st45 : j_Mf ρ m H41 (j_ui H41 b43 (Int32.ofInt (1)).toNatClampNeg b) := j_Mf.ar w41.km kb43 (⟨by omega, fun z => absurd z (by omega)⟩)
          have tH45 : j_it (j_ui H41 b43 (Int32.ofInt (1)).toNatClampNeg b) m 0 = Int32.ofInt 0 := (j_t0i w41.km kb43 (by decide)).trans tH41
          generalize j_ui H41 b43 (Int32.ofInt (1)).toNatClampNeg b = H45 at st45 tH45 ⊢
          have zG45 := congrArg Int32.toInt (st45.sz w41.lG.1)
          have zR45 := congrArg Int32.toInt (st45.sz w41.lR.1)
          have zQ45 := congrArg Int32.toInt (st45.sz w41.lQ.1)
          have fe45_e27 := st45.gZ k41_e27 fe41_e27
          have k45_e27 := st45.kd k41_e27
          have w45 := w41.f st45
          have f45_0 := f41_0.tr st45
          conv => whnf
          refine ⟨_, rfl, w45.km, fun x46 ex46 => ?_⟩
          conv => whnf
          refine ⟨_, rfl, k45_e27, ?_⟩
          show j_go _ _ _ _ _ _ _ _ _ _ (j_up H45 e27 4 (j_i x46)) _ _
          have st47 : j_Mf ρ m H45 (j_up H45 e27 4 (j_i x46)) := j_Mf.gr w45.km k45_e27
          have tH47 : j_it (j_up H45 e27 4 (j_i x46)) m 0 = Int32.ofInt 0 := (j_t0u w45.km k45_e27 (by decide)).trans tH45
          generalize j_up H45 e27 4 (j_i x46) = H47 at st47 tH47 ⊢
          have zG47 := congrArg Int32.toInt (st47.sz w45.lG.1)
          have zR47 := congrArg Int32.toInt (st47.sz w45.lR.1)
          have zQ47 := congrArg Int32.toInt (st47.sz w45.lQ.1)
          have fe47_e27 := st47.gZ k45_e27 fe45_e27
          have k47_e27 := st47.kd k45_e27
          have w47 := w45.f st47
          have f47_0 := f45_0.tr st47
          conv => whnf
          refine ⟨_, rfl, k47_e27, ?_⟩
          show j_go _ _ _ _ _ _ _ _ _ _ (j_up H47 e27 5 (j_i c)) _ _
          have st48 : j_Mf ρ m H47 (j_up H47 e27 5 (j_i c)) := j_Mf.gr w47.km k47_e27
          have tH48 : j_it (j_up H47 e27 5 (j_i c)) m 0 = Int32.ofInt 0 := (j_t0u w47.km k47_e27 (by decide)).trans tH47
          generalize j_up H47 e27 5 (j_i c) = H48 at st48 tH48 ⊢
          have zG48 := congrArg Int32.toInt (st48.sz w47.lG.1)
          have zR48 := congrArg Int32.toInt (st48.sz w47.lR.1)
          have zQ48 := congrArg Int32.toInt (st48.sz w47.lQ.1)
          have fe48_e27 := st48.gZ k47_e27 fe47_e27
          have k48_e27 := st48.kd k47_e27
          have w48 := w47.f st48
          have f48_0 := f47_0.tr st48
          conv => whnf
          refine ⟨_, rfl, w48.km, fun o49 eo => ?_⟩
          obtain rfl : o49 = some G := eo.symm.trans w48.eG
          have zb := w48.b
          obtain ⟨ρ1, w1, ga⟩ := w48.roleG fe48_e27
          obtain ⟨kL, z0, z1, arr, t, e1, e2, e3, e4, e5, e6⟩ := id w1.lG
          conv => whnf
          refine ⟨kL, rfl, _, _, _, _, _, _, c_AL_add_53 kL e1 e2 e3 e5.2 z0 e4 (by omega) e5.1 (fun j hj => by obtain ⟨y, y1, y2⟩ := e6 j hj; exact ⟨y, y1, Or.inl ⟨_, y2⟩⟩) (Or.inl ⟨_, k48_e27⟩), ⟨Nat.le_of_ble_eq_true rfl, Nat.le_of_ble_eq_true rfl, Nat.le_of_ble_eq_true rfl, Nat.le_of_ble_eq_true rfl⟩, fun _ _ z => False.elim z, ?_⟩
          rintro v9 H50 ⟨⟨rr9, rfl⟩, ad⟩
          have wz := w1.adG e1 ad (by omega) k48_e27 ga
          have zz := wz.b
          have iR := (ad.li kL e1 e2 w1.ap.1 w1.lR).2.1 1
          have iQ := (ad.li kL e1 e2 w1.ap.2.1 w1.lQ).2.1 1
          have mg : j_Mg m G R Q h H50 := j_Mg.ad w f48_0 ad (Or.inl rfl) e1 e2 e3 (fun L9 q n => by
            rcases q with rfl | rfl | rfl
            · exact absurd rfl n
            · exact iR.2
            · exact iQ.2)
          conv => whnf
          refine ⟨_, rfl, wz.km, fun o51 eo => ?_⟩
          obtain rfl : o51 = some G := eo.symm.trans wz.eG
          conv => whnf
          refine ⟨wz.lG.1, rfl, _, _, _, _, _, _, c_AL_size (h := H50) wz.lG j_Sc.rf j_sf_ok, ⟨Nat.le_of_ble_eq_true rfl, Nat.le_of_ble_eq_true rfl, Nat.le_of_ble_eq_true rfl, Nat.le_of_ble_eq_true rfl⟩, fun _ _ z => False.elim z, ?_⟩
          rintro v9 h9 ⟨e9, rfl⟩
          obtain rfl : H50 = h9 := e9.symm
          have q52 := j_sub1 (x := (j_it H50 G 2)) (by omega)
          conv => whnf
          have tH50 : j_it H50 m 0 = Int32.ofInt 0 := ((ad.st kL e2 e3 w1.km (Or.inr ⟨_, rfl, by decide⟩)).2.2 0).1.trans tH48
          have am50 : j_Bt H50 m P G R (n_grain (j_am h m P G R)) := fun k hk => by
            rw [w1.amG e1 ad k hk]
            unfold n_grain j_u1
            by_cases z : k = 0
            · rw [if_pos z, if_pos z, f48_0.am w 0 rfl]
            · rw [if_neg z, if_neg z]; exact f48_0.am w k hk
          exact ⟨trivial, ⟨Nat.le_of_ble_eq_true rfl, Nat.le_of_ble_eq_true rfl⟩, j_MQ.ok ⟨_, wz⟩ mg tH50 ((j_cqp ⟨by omega, by omega, by omega⟩).trans (j_cqp (show (j_it h G 2).toInt < 8 by omega))) am50 (by rw [show j_it H50 G 2 = j_am h m P G R 0 + Int32.ofInt 1 from am50 0 rfl]; exact Int32.add_sub_cancel _ _)⟩
        · have c26 : ¬ ¬ ((j_it H1 G 2)).toInt = ((Int8.ofInt (8)).toInt32).toInt := c26
          have q53 : (Int32.ofInt (2)).toInt = 2 := by decide
          conv => whnf
          refine ⟨w1.km, rfl, _, _, _, _, _, _, c_Mo_refusex w1.km, ⟨Nat.le_of_ble_eq_true rfl, Nat.le_of_ble_eq_true rfl, Nat.le_of_ble_eq_true rfl, Nat.le_of_ble_eq_true rfl⟩, fun _ _ z => False.elim z, ?_⟩
          rintro v9 H55 ⟨rfl, eH55⟩
          have st56 : j_Mf ρ m H1 H55 := by rw [eH55]; exact j_Mf.fi w1.km (by decide)
          have tH55 : j_it H55 m 0 = Int32.ofInt 2 := by rw [eH55]; exact j_upi
          have zG57 := congrArg Int32.toInt (st56.sz w1.lG.1)
          have zR57 := congrArg Int32.toInt (st56.sz w1.lR.1)
          have zQ57 := congrArg Int32.toInt (st56.sz w1.lQ.1)
          have w57 := w1.f st56
          have f57_0 := f1_0.tr st56
          conv => whnf
          exact ⟨trivial, ⟨Nat.le_of_ble_eq_true rfl, Nat.le_of_ble_eq_true rfl⟩, j_MQ.no w f57_0 tH55 ((j_cqp ⟨by omega, by omega, by omega⟩).trans (j_cqn (show ¬ (j_it h G 2).toInt < 8 by omega))) (by decide)⟩
      · have c23 : ¬ ¬ (r22).toInt = 0 := c23
        have q58 : (Int32.ofInt (1)).toInt = 1 := by decide
        conv => whnf
        refine ⟨w1.km, rfl, _, _, _, _, _, _, c_Mo_refusex w1.km, ⟨Nat.le_of_ble_eq_true rfl, Nat.le_of_ble_eq_true rfl, Nat.le_of_ble_eq_true rfl, Nat.le_of_ble_eq_true rfl⟩, fun _ _ z => False.elim z, ?_⟩
        rintro v9 H60 ⟨rfl, eH60⟩
        have st61 : j_Mf ρ m H1 H60 := by rw [eH60]; exact j_Mf.fi w1.km (by decide)
        have tH60 : j_it H60 m 0 = Int32.ofInt 1 := by rw [eH60]; exact j_upi
        have zG62 := congrArg Int32.toInt (st61.sz w1.lG.1)
        have zR62 := congrArg Int32.toInt (st61.sz w1.lR.1)
        have zQ62 := congrArg Int32.toInt (st61.sz w1.lQ.1)
        have w62 := w1.f st61
        have f62_0 := f1_0.tr st61
        conv => whnf
        exact ⟨trivial, ⟨Nat.le_of_ble_eq_true rfl, Nat.le_of_ble_eq_true rfl⟩, j_MQ.no w f62_0 tH60 (j_cqn (fun z => by obtain ⟨z1, z2, z3⟩ := z; omega)) (by decide)⟩
set_option maxHeartbeats 4000000 in
set_option maxRecDepth 20000 in
theorem c_Mo_runq {ρ : Nat → Nat} {h : j_H} {m P G R Q : Nat} {a : Int32} {b : Int32} {c : Int32} {d : Int32} (w : j_MX ρ h m P G R Q)  : j_Ct 211 7 157 2 50 [j_r (some m), j_i a, j_i b, j_i c, j_i d] h (j_MQ m P G R Q h (q_run (j_am h m P G R) a b c d) (j_am h m P G R 1) (n_run (j_am h m P G R))) j_no := by
  refine j_intro km_211 (Nat.le_of_ble_eq_true rfl) ?_
  intro J hJ hF
  have wb := w.b
  refine hJ [] 400 _ _ _ _ _ _ ?_
  conv => whnf
  refine ⟨_, rfl, w.km, ?_⟩
  show j_go _ _ _ _ _ _ _ _ _ _ (j_up h m 0 (j_i (Int32.ofInt (0)))) _ _
  have st1 : j_Mf ρ m h (j_up h m 0 (j_i (Int32.ofInt (0)))) := j_Mf.fi w.km (by decide)
  have tH1 : j_it (j_up h m 0 (j_i (Int32.ofInt (0)))) m 0 = Int32.ofInt 0 := j_upi
  generalize j_up h m 0 (j_i (Int32.ofInt (0))) = H1 at st1 tH1 ⊢
  have zG1 := congrArg Int32.toInt (st1.sz w.lG.1)
  have zR1 := congrArg Int32.toInt (st1.sz w.lR.1)
  have zQ1 := congrArg Int32.toInt (st1.sz w.lQ.1)
  have w1 := w.f st1
  have f1_0 := (j_Mf.rf : j_Mf ρ m h h).tr st1
  conv => whnf
  refine ⟨w1.km, rfl, _, _, _, _, _, _, c_Mo_isGrainx w1, ⟨Nat.le_of_ble_eq_true rfl, Nat.le_of_ble_eq_true rfl, Nat.le_of_ble_eq_true rfl, Nat.le_of_ble_eq_true rfl⟩, fun _ _ z => False.elim z, ?_⟩
  rintro v9 h9 ⟨e9, r2, rfl, zr2⟩
  have mr2 := j_zy zr2
  obtain rfl : H1 = h9 := e9.symm
  conv => whnf
  refine ⟨fun c3 => ?_, fun c3 => ?_⟩
  · have c3 : (r2).toInt = 0 := c3
    have q4 : (Int32.ofInt (1)).toInt = 1 := by decide
    conv => whnf
    refine ⟨w1.km, rfl, _, _, _, _, _, _, c_Mo_refusex w1.km, ⟨Nat.le_of_ble_eq_true rfl, Nat.le_of_ble_eq_true rfl, Nat.le_of_ble_eq_true rfl, Nat.le_of_ble_eq_true rfl⟩, fun _ _ z => False.elim z, ?_⟩
    rintro v9 H6 ⟨rfl, eH6⟩
    have st7 : j_Mf ρ m H1 H6 := by rw [eH6]; exact j_Mf.fi w1.km (by decide)
    have tH6 : j_it H6 m 0 = Int32.ofInt 1 := by rw [eH6]; exact j_upi
    have zG8 := congrArg Int32.toInt (st7.sz w1.lG.1)
    have zR8 := congrArg Int32.toInt (st7.sz w1.lR.1)
    have zQ8 := congrArg Int32.toInt (st7.sz w1.lQ.1)
    have w8 := w1.f st7
    have f8_0 := f1_0.tr st7
    conv => whnf
    exact ⟨trivial, ⟨Nat.le_of_ble_eq_true rfl, Nat.le_of_ble_eq_true rfl⟩, j_MQ.no w f8_0 tH6 (j_cqn (fun z => by obtain ⟨⟨z1, z2⟩, z3⟩ := z; have z2 : a.toInt < (j_it h G 2).toInt := z2; omega)) (by decide)⟩
  · have c3 : ¬ (r2).toInt = 0 := c3
    have q9 : (Int32.ofInt (0)).toInt = 0 := by decide
    have q10 : (Int32.ofInt (1)).toInt = 1 := by decide
    conv => whnf
    refine ⟨rfl, _, _, _, _, _, _, c_Mo_isx, ⟨Nat.le_of_ble_eq_true rfl, Nat.le_of_ble_eq_true rfl, Nat.le_of_ble_eq_true rfl, Nat.le_of_ble_eq_true rfl⟩, fun _ _ z => False.elim z, ?_⟩
    rintro v9 h9 ⟨e9, r11, rfl, zr11⟩
    have mr11 := j_zx zr11
    obtain rfl : H1 = h9 := e9.symm
    conv => whnf
    refine ⟨fun c12 => ?_, fun c12 => ?_⟩
    · have c12 : ¬ (r11).toInt = 0 := c12
      conv => whnf
      refine ⟨_, rfl, w1.km, fun x13 ex13 => ?_⟩
      obtain rfl : x13 = j_am h m P G R 5 := ex13.symm.trans (st1.am w 5 rfl)
      conv => whnf
      refine ⟨_, rfl, w1.km, fun x14 ex14 => ?_⟩
      obtain rfl : x14 = j_am h m P G R 5 := ex14.symm.trans (st1.am w 5 rfl)
      conv => whnf
      refine ⟨rfl, _, _, _, _, _, _, c_Mo_isx, ⟨Nat.le_of_ble_eq_true rfl, Nat.le_of_ble_eq_true rfl, Nat.le_of_ble_eq_true rfl, Nat.le_of_ble_eq_true rfl⟩, fun _ _ z => False.elim z, ?_⟩
      rintro v9 h9 ⟨e9, r15, rfl, zr15⟩
      have mr15 := j_zx zr15
      obtain rfl : H1 = h9 := e9.symm
      conv => whnf
      refine ⟨fun c16 => ?_, fun c16 => ?_⟩
      · have c16 : (r15).toInt = 0 := c16
        have q17 : (Int32.ofInt (2)).toInt = 2 := by decide
        conv => whnf
        refine ⟨w1.km, rfl, _, _, _, _, _, _, c_Mo_refusex w1.km, ⟨Nat.le_of_ble_eq_true rfl, Nat.le_of_ble_eq_true rfl, Nat.le_of_ble_eq_true rfl, Nat.le_of_ble_eq_true rfl⟩, fun _ _ z => False.elim z, ?_⟩
        rintro v9 H19 ⟨rfl, eH19⟩
        have st20 : j_Mf ρ m H1 H19 := by rw [eH19]; exact j_Mf.fi w1.km (by decide)
        have tH19 : j_it H19 m 0 = Int32.ofInt 2 := by rw [eH19]; exact j_upi
        have zG21 := congrArg Int32.toInt (st20.sz w1.lG.1)
        have zR21 := congrArg Int32.toInt (st20.sz w1.lR.1)
        have zQ21 := congrArg Int32.toInt (st20.sz w1.lQ.1)
        have w21 := w1.f st20
        have f21_0 := f1_0.tr st20
        conv => whnf
        exact ⟨trivial, ⟨Nat.le_of_ble_eq_true rfl, Nat.le_of_ble_eq_true rfl⟩, j_MQ.no w f21_0 tH19 ((j_cqp ⟨⟨by omega, show a.toInt < (j_it h G 2).toInt by omega⟩, by omega⟩).trans (j_cqn (fun z => by obtain ⟨⟨z1, z2⟩, z3, z4⟩ := z; omega))) (by decide)⟩
      · have c16 : ¬ (r15).toInt = 0 := c16
        conv => whnf
        refine ⟨_, rfl, w1.km, fun x22 ex22 => ?_⟩
        obtain rfl : x22 = j_am h m P G R 5 := ex22.symm.trans (st1.am w 5 rfl)
        conv => whnf
        refine ⟨_, rfl, w1.km, fun x23 ex23 => ?_⟩
        obtain rfl : x23 = j_am h m P G R 5 := ex23.symm.trans (st1.am w 5 rfl)
        conv => whnf
        refine ⟨rfl, _, _, _, _, _, _, c_Mo_isx, ⟨Nat.le_of_ble_eq_true rfl, Nat.le_of_ble_eq_true rfl, Nat.le_of_ble_eq_true rfl, Nat.le_of_ble_eq_true rfl⟩, fun _ _ z => False.elim z, ?_⟩
        rintro v9 h9 ⟨e9, r24, rfl, zr24⟩
        have mr24 := j_zx zr24
        obtain rfl : H1 = h9 := e9.symm
        conv => whnf
        refine ⟨fun c25 => ?_, fun c25 => ?_⟩
        · have c25 : ¬ (r24).toInt = 0 := c25
          conv => whnf
          refine ⟨_, rfl, w1.km, fun o26 eo => ?_⟩
          obtain rfl : o26 = some R := eo.symm.trans w1.eR
          conv => whnf
          refine ⟨w1.lR.1, rfl, _, _, _, _, _, _, c_AL_size (h := H1) w1.lR j_Sc.rf j_sf_ok, ⟨Nat.le_of_ble_eq_true rfl, Nat.le_of_ble_eq_true rfl, Nat.le_of_ble_eq_true rfl, Nat.le_of_ble_eq_true rfl⟩, fun _ _ z => False.elim z, ?_⟩
          rintro v9 h9 ⟨e9, rfl⟩
          obtain rfl : H1 = h9 := e9.symm
          have q27 : ((Int8.ofInt (20)).toInt32).toInt = 20 := by decide
          conv => whnf
          refine ⟨fun c28 => ?_, fun c28 => ?_⟩
          · have c28 : ¬ ((j_it H1 R 2)).toInt = ((Int8.ofInt (20)).toInt32).toInt := c28
            conv => whnf
            refine ⟨⟨Nat.le_of_ble_eq_true rfl, Nat.le_of_ble_eq_true rfl⟩, fun e29 he29 => ?_⟩
            conv => whnf
            refine ⟨trivial, rfl, _, _, _, _, _, _, c_MRun_init, ⟨Nat.le_of_ble_eq_true rfl, Nat.le_of_ble_eq_true rfl, Nat.le_of_ble_eq_true rfl, Nat.le_of_ble_eq_true rfl⟩, fun _ _ z => False.elim z, ?_⟩
            rintro v9 h9 ⟨rfl, e9⟩
            have e9 : h9 = j_nw H1 e29 (.inl 11) 0 := e9
            have st30 : j_Mf ρ m H1 h9 := by rw [e9]; exact j_Mf.nw w1.km he29 (fun c z => by cases z; decide)
            have ke29 : j_kd h9 e29 = some (.inl 11) := by rw [e9]; exact if_pos rfl
            have fee29 : j_rA h9 e29 := by rw [e9]; unfold j_rA; rw [show j_it (j_nw H1 e29 (.inl 11) 0) e29 1 = 0 from if_pos rfl]; decide
            have tH30 : j_it h9 m 0 = Int32.ofInt 0 := by
              rw [e9]
              exact (if_neg (fun z => by have := w1.km; rw [z, he29] at this; cases this)).trans tH1
            clear e9
            obtain ⟨H30, eh30⟩ : ∃ q, q = h9 := ⟨_, rfl⟩
            rw [← eh30] at st30 ke29 fee29 tH30 ⊢
            have zG31 := congrArg Int32.toInt (st30.sz w1.lG.1)
            have zR31 := congrArg Int32.toInt (st30.sz w1.lR.1)
            have zQ31 := congrArg Int32.toInt (st30.sz w1.lQ.1)
            have w31 := w1.f st30
            have f31_0 := f1_0.tr st30
            conv => whnf
            refine ⟨_, rfl, ke29, ?_⟩
            show j_go _ _ _ _ _ _ _ _ _ _ (j_up H30 e29 0 (j_i a)) _ _
            have st32 : j_Mf ρ m H30 (j_up H30 e29 0 (j_i a)) := j_Mf.ru w31.km ke29 (by decide)
            have tH32 : j_it (j_up H30 e29 0 (j_i a)) m 0 = Int32.ofInt 0 := (j_t0u w31.km ke29 (by decide)).trans tH30
            generalize j_up H30 e29 0 (j_i a) = H32 at st32 tH32 ⊢
            have zG32 := congrArg Int32.toInt (st32.sz w31.lG.1)
            have zR32 := congrArg Int32.toInt (st32.sz w31.lR.1)
            have zQ32 := congrArg Int32.toInt (st32.sz w31.lQ.1)
            have fe32_e29 := st32.rA ke29 fee29
            have k32_e29 := st32.kd ke29
            have w32 := w31.f st32
            have f32_0 := f31_0.tr st32
            conv => whnf
            refine ⟨_, rfl, k32_e29, ?_⟩
            show j_go _ _ _ _ _ _ _ _ _ _ (j_up H32 e29 1 (j_i b)) _ _
            have st33 : j_Mf ρ m H32 (j_up H32 e29 1 (j_i b)) := j_Mf.rc w32.km k32_e29 (by omega) (by omega)
            have tH33 : j_it (j_up H32 e29 1 (j_i b)) m 0 = Int32.ofInt 0 := (j_t0u w32.km k32_e29 (by decide)).trans tH32
            generalize j_up H32 e29 1 (j_i b) = H33 at st33 tH33 ⊢
            have zG33 := congrArg Int32.toInt (st33.sz w32.lG.1)
            have zR33 := congrArg Int32.toInt (st33.sz w32.lR.1)
            have zQ33 := congrArg Int32.toInt (st33.sz w32.lQ.1)
            have fe33_e29 := st33.rA k32_e29 fe32_e29
            have k33_e29 := st33.kd k32_e29
            have w33 := w32.f st33
            have f33_0 := f32_0.tr st33
            conv => whnf
            refine ⟨_, rfl, w33.km, fun o34 eo => ?_⟩
            obtain rfl : o34 = some G := eo.symm.trans w33.eG
            conv => whnf
            refine ⟨w33.lG.1, rfl, _, _, _, _, _, _, c_AL_get (h := H33) w33.lG j_Sc.rf j_sf_ok (by omega) (by omega), ⟨Nat.le_of_ble_eq_true rfl, Nat.le_of_ble_eq_true rfl, Nat.le_of_ble_eq_true rfl, Nat.le_of_ble_eq_true rfl⟩, fun _ _ z => False.elim z, ?_⟩
            rintro v9 h9 ⟨e9, g35, rfl, kg35, xg35⟩
            obtain rfl : H33 = h9 := e9.symm
            have feg35 := w33.aG.get (by omega) (by omega) xg35
            conv => whnf
            refine ⟨Or.inr ⟨_, rfl, kg35⟩, ?_⟩
            conv => whnf
            refine ⟨_, rfl, kg35, fun o36 eo => ?_⟩
            obtain ⟨b37, eb37, kb37, nb37, rb37⟩ := feg35 0 (by decide)
            obtain rfl : o36 = some b37 := eo.symm.trans eb37
            conv => whnf
            refine ⟨_, _, rfl, kb37, rfl, j_vp (by omega) (by omega), fun x38 ex38 => ?_⟩
            conv => whnf
            refine ⟨⟨Nat.le_of_ble_eq_true rfl, Nat.le_of_ble_eq_true rfl, Nat.le_of_ble_eq_true rfl, Nat.le_of_ble_eq_true rfl⟩, ?_⟩
            conv => whnf
            refine ⟨_, rfl, k33_e29, ?_⟩
            show j_go _ _ _ _ _ _ _ _ _ _ (j_up H33 e29 2 (j_i (if Int32.ofInt (0) < (x38 + c) then (x38 + c) else Int32.ofInt (0)))) _ _
            have st39 : j_Mf ρ m H33 (j_up H33 e29 2 (j_i (if Int32.ofInt (0) < (x38 + c) then (x38 + c) else Int32.ofInt (0)))) := j_Mf.ru w33.km k33_e29 (by decide)
            have tH39 : j_it (j_up H33 e29 2 (j_i (if Int32.ofInt (0) < (x38 + c) then (x38 + c) else Int32.ofInt (0)))) m 0 = Int32.ofInt 0 := (j_t0u w33.km k33_e29 (by decide)).trans tH33
            generalize j_up H33 e29 2 (j_i (if Int32.ofInt (0) < (x38 + c) then (x38 + c) else Int32.ofInt (0))) = H39 at st39 tH39 ⊢
            have zG39 := congrArg Int32.toInt (st39.sz w33.lG.1)
            have zR39 := congrArg Int32.toInt (st39.sz w33.lR.1)
            have zQ39 := congrArg Int32.toInt (st39.sz w33.lQ.1)
            have fe39_e29 := st39.rA k33_e29 fe33_e29
            have k39_e29 := st39.kd k33_e29
            have w39 := w33.f st39
            have f39_0 := f33_0.tr st39
            conv => whnf
            refine ⟨_, rfl, w39.km, fun o40 eo => ?_⟩
            obtain rfl : o40 = some G := eo.symm.trans w39.eG
            conv => whnf
            refine ⟨w39.lG.1, rfl, _, _, _, _, _, _, c_AL_get (h := H39) w39.lG j_Sc.rf j_sf_ok (by omega) (by omega), ⟨Nat.le_of_ble_eq_true rfl, Nat.le_of_ble_eq_true rfl, Nat.le_of_ble_eq_true rfl, Nat.le_of_ble_eq_true rfl⟩, fun _ _ z => False.elim z, ?_⟩
            rintro v9 h9 ⟨e9, g41, rfl, kg41, xg41⟩
            obtain rfl : H39 = h9 := e9.symm
            have feg41 := w39.aG.get (by omega) (by omega) xg41
            conv => whnf
            refine ⟨Or.inr ⟨_, rfl, kg41⟩, ?_⟩
            conv => whnf
            refine ⟨_, rfl, kg41, fun o42 eo => ?_⟩
            obtain ⟨b43, eb43, kb43, nb43, rb43⟩ := feg41 1 (by decide)
            obtain rfl : o42 = some b43 := eo.symm.trans eb43
            conv => whnf
            refine ⟨_, _, rfl, kb43, rfl, j_vp (by omega) (by omega), fun x44 ex44 => ?_⟩
            conv => whnf
            refine ⟨⟨Nat.le_of_ble_eq_true rfl, Nat.le_of_ble_eq_true rfl, Nat.le_of_ble_eq_true rfl, Nat.le_of_ble_eq_true rfl⟩, ?_⟩
            conv => whnf
            refine ⟨_, rfl, k39_e29, ?_⟩
            show j_go _ _ _ _ _ _ _ _ _ _ (j_up H39 e29 3 (j_i (if Int32.ofInt (0) < (x44 + d) then (x44 + d) else Int32.ofInt (0)))) _ _
            have st45 : j_Mf ρ m H39 (j_up H39 e29 3 (j_i (if Int32.ofInt (0) < (x44 + d) then (x44 + d) else Int32.ofInt (0)))) := j_Mf.ru w39.km k39_e29 (by decide)
            have tH45 : j_it (j_up H39 e29 3 (j_i (if Int32.ofInt (0) < (x44 + d) then (x44 + d) else Int32.ofInt (0)))) m 0 = Int32.ofInt 0 := (j_t0u w39.km k39_e29 (by decide)).trans tH39
            generalize j_up H39 e29 3 (j_i (if Int32.ofInt (0) < (x44 + d) then (x44 + d) else Int32.ofInt (0))) = H45 at st45 tH45 ⊢
            have zG45 := congrArg Int32.toInt (st45.sz w39.lG.1)
            have zR45 := congrArg Int32.toInt (st45.sz w39.lR.1)
            have zQ45 := congrArg Int32.toInt (st45.sz w39.lQ.1)
            have fe45_e29 := st45.rA k39_e29 fe39_e29
            have k45_e29 := st45.kd k39_e29
            have w45 := w39.f st45
            have f45_0 := f39_0.tr st45
            conv => whnf
            refine ⟨_, rfl, w45.km, fun x46 ex46 => ?_⟩
            conv => whnf
            refine ⟨_, rfl, k45_e29, ?_⟩
            show j_go _ _ _ _ _ _ _ _ _ _ (j_up H45 e29 4 (j_i x46)) _ _
            have st47 : j_Mf ρ m H45 (j_up H45 e29 4 (j_i x46)) := j_Mf.ru w45.km k45_e29 (by decide)
            have tH47 : j_it (j_up H45 e29 4 (j_i x46)) m 0 = Int32.ofInt 0 := (j_t0u w45.km k45_e29 (by decide)).trans tH45
            generalize j_up H45 e29 4 (j_i x46) = H47 at st47 tH47 ⊢
            have zG47 := congrArg Int32.toInt (st47.sz w45.lG.1)
            have zR47 := congrArg Int32.toInt (st47.sz w45.lR.1)
            have zQ47 := congrArg Int32.toInt (st47.sz w45.lQ.1)
            have fe47_e29 := st47.rA k45_e29 fe45_e29
            have k47_e29 := st47.kd k45_e29
            have w47 := w45.f st47
            have f47_0 := f45_0.tr st47
            conv => whnf
            refine ⟨_, rfl, w47.km, fun x48 ex48 => ?_⟩
            conv => whnf
            refine ⟨_, rfl, k47_e29, ?_⟩
            show j_go _ _ _ _ _ _ _ _ _ _ (j_up H47 e29 5 (j_i x48)) _ _
            have st49 : j_Mf ρ m H47 (j_up H47 e29 5 (j_i x48)) := j_Mf.ru w47.km k47_e29 (by decide)
            have tH49 : j_it (j_up H47 e29 5 (j_i x48)) m 0 = Int32.ofInt 0 := (j_t0u w47.km k47_e29 (by decide)).trans tH47
            generalize j_up H47 e29 5 (j_i x48) = H49 at st49 tH49 ⊢
            have zG49 := congrArg Int32.toInt (st49.sz w47.lG.1)
            have zR49 := congrArg Int32.toInt (st49.sz w47.lR.1)
            have zQ49 := congrArg Int32.toInt (st49.sz w47.lQ.1)
            have fe49_e29 := st49.rA k47_e29 fe47_e29
            have k49_e29 := st49.kd k47_e29
            have w49 := w47.f st49
            have f49_0 := f47_0.tr st49
            conv => whnf
            refine ⟨_, rfl, w49.km, fun o50 eo => ?_⟩
            obtain rfl : o50 = some R := eo.symm.trans w49.eR
            have zb := w49.b
            have w1 := w49
            obtain ⟨kL, z0, z1, arr, t, e1, e2, e3, e4, e5, e6⟩ := id w1.lR
            conv => whnf
            refine ⟨kL, rfl, _, _, _, _, _, _, c_AL_add_53 kL e1 e2 e3 e5.2 z0 e4 (by omega) e5.1 (fun j hj => by obtain ⟨y, y1, y2⟩ := e6 j hj; exact ⟨y, y1, Or.inl ⟨_, y2⟩⟩) (Or.inl ⟨_, k49_e29⟩), ⟨Nat.le_of_ble_eq_true rfl, Nat.le_of_ble_eq_true rfl, Nat.le_of_ble_eq_true rfl, Nat.le_of_ble_eq_true rfl⟩, fun _ _ z => False.elim z, ?_⟩
            rintro v9 H51 ⟨⟨rr9, rfl⟩, ad⟩
            have wz := w1.adR e1 ad (by omega) k49_e29 fe49_e29
            have zz := wz.b
            have iG := (ad.li kL e1 e2 w1.ap.1.sy w1.lG).2.1 1
            have iQ := (ad.li kL e1 e2 w1.ap.2.2 w1.lQ).2.1 1
            have mg : j_Mg m G R Q h H51 := j_Mg.ad w f49_0 ad (Or.inr (Or.inl rfl)) e1 e2 e3 (fun L9 q n => by
              rcases q with rfl | rfl | rfl
              · exact iG.2
              · exact absurd rfl n
              · exact iQ.2)
            conv => whnf
            refine ⟨_, rfl, wz.km, fun o52 eo => ?_⟩
            obtain rfl : o52 = some R := eo.symm.trans wz.eR
            conv => whnf
            refine ⟨wz.lR.1, rfl, _, _, _, _, _, _, c_AL_size (h := H51) wz.lR j_Sc.rf j_sf_ok, ⟨Nat.le_of_ble_eq_true rfl, Nat.le_of_ble_eq_true rfl, Nat.le_of_ble_eq_true rfl, Nat.le_of_ble_eq_true rfl⟩, fun _ _ z => False.elim z, ?_⟩
            rintro v9 h9 ⟨e9, rfl⟩
            obtain rfl : H51 = h9 := e9.symm
            have q53 := j_sub1 (x := (j_it H51 R 2)) (by omega)
            conv => whnf
            have tH51 : j_it H51 m 0 = Int32.ofInt 0 := ((ad.st kL e2 e3 w1.km (Or.inr ⟨_, rfl, by decide⟩)).2.2 0).1.trans tH49
            have am51 : j_Bt H51 m P G R (n_run (j_am h m P G R)) := fun k hk => by
              rw [w1.amR e1 ad k hk]
              unfold n_run j_u1
              by_cases z : k = 1
              · rw [if_pos z, if_pos z, f49_0.am w 1 rfl]
              · rw [if_neg z, if_neg z]; exact f49_0.am w k hk
            exact ⟨trivial, ⟨Nat.le_of_ble_eq_true rfl, Nat.le_of_ble_eq_true rfl⟩, j_MQ.ok ⟨_, wz⟩ mg tH51 ((j_cqp ⟨⟨by omega, show a.toInt < (j_it h G 2).toInt by omega⟩, by omega⟩).trans ((j_cqp ⟨⟨by omega, by omega⟩, by omega, by omega⟩).trans (j_cqp (show (j_it h R 2).toInt < 20 by omega)))) am51 (by rw [show j_it H51 R 2 = j_am h m P G R 1 + Int32.ofInt 1 from am51 1 rfl]; exact Int32.add_sub_cancel _ _)⟩
          · have c28 : ¬ ¬ ((j_it H1 R 2)).toInt = ((Int8.ofInt (20)).toInt32).toInt := c28
            have q54 : (Int32.ofInt (3)).toInt = 3 := by decide
            conv => whnf
            refine ⟨w1.km, rfl, _, _, _, _, _, _, c_Mo_refusex w1.km, ⟨Nat.le_of_ble_eq_true rfl, Nat.le_of_ble_eq_true rfl, Nat.le_of_ble_eq_true rfl, Nat.le_of_ble_eq_true rfl⟩, fun _ _ z => False.elim z, ?_⟩
            rintro v9 H56 ⟨rfl, eH56⟩
            have st57 : j_Mf ρ m H1 H56 := by rw [eH56]; exact j_Mf.fi w1.km (by decide)
            have tH56 : j_it H56 m 0 = Int32.ofInt 3 := by rw [eH56]; exact j_upi
            have zG58 := congrArg Int32.toInt (st57.sz w1.lG.1)
            have zR58 := congrArg Int32.toInt (st57.sz w1.lR.1)
            have zQ58 := congrArg Int32.toInt (st57.sz w1.lQ.1)
            have w58 := w1.f st57
            have f58_0 := f1_0.tr st57
            conv => whnf
            exact ⟨trivial, ⟨Nat.le_of_ble_eq_true rfl, Nat.le_of_ble_eq_true rfl⟩, j_MQ.no w f58_0 tH56 ((j_cqp ⟨⟨by omega, show a.toInt < (j_it h G 2).toInt by omega⟩, by omega⟩).trans ((j_cqp ⟨⟨by omega, by omega⟩, by omega, by omega⟩).trans (j_cqn (show ¬ (j_it h R 2).toInt < 20 by omega)))) (by decide)⟩
        · have c25 : ¬ ¬ (r24).toInt = 0 := c25
          have q59 : (Int32.ofInt (2)).toInt = 2 := by decide
          conv => whnf
          refine ⟨w1.km, rfl, _, _, _, _, _, _, c_Mo_refusex w1.km, ⟨Nat.le_of_ble_eq_true rfl, Nat.le_of_ble_eq_true rfl, Nat.le_of_ble_eq_true rfl, Nat.le_of_ble_eq_true rfl⟩, fun _ _ z => False.elim z, ?_⟩
          rintro v9 H61 ⟨rfl, eH61⟩
          have st62 : j_Mf ρ m H1 H61 := by rw [eH61]; exact j_Mf.fi w1.km (by decide)
          have tH61 : j_it H61 m 0 = Int32.ofInt 2 := by rw [eH61]; exact j_upi
          have zG63 := congrArg Int32.toInt (st62.sz w1.lG.1)
          have zR63 := congrArg Int32.toInt (st62.sz w1.lR.1)
          have zQ63 := congrArg Int32.toInt (st62.sz w1.lQ.1)
          have w63 := w1.f st62
          have f63_0 := f1_0.tr st62
          conv => whnf
          exact ⟨trivial, ⟨Nat.le_of_ble_eq_true rfl, Nat.le_of_ble_eq_true rfl⟩, j_MQ.no w f63_0 tH61 ((j_cqp ⟨⟨by omega, show a.toInt < (j_it h G 2).toInt by omega⟩, by omega⟩).trans (j_cqn (fun z => by obtain ⟨⟨z1, z2⟩, z3, z4⟩ := z; omega))) (by decide)⟩
    · have c12 : ¬ ¬ (r11).toInt = 0 := c12
      have q64 : (Int32.ofInt (1)).toInt = 1 := by decide
      conv => whnf
      refine ⟨w1.km, rfl, _, _, _, _, _, _, c_Mo_refusex w1.km, ⟨Nat.le_of_ble_eq_true rfl, Nat.le_of_ble_eq_true rfl, Nat.le_of_ble_eq_true rfl, Nat.le_of_ble_eq_true rfl⟩, fun _ _ z => False.elim z, ?_⟩
      rintro v9 H66 ⟨rfl, eH66⟩
      have st67 : j_Mf ρ m H1 H66 := by rw [eH66]; exact j_Mf.fi w1.km (by decide)
      have tH66 : j_it H66 m 0 = Int32.ofInt 1 := by rw [eH66]; exact j_upi
      have zG68 := congrArg Int32.toInt (st67.sz w1.lG.1)
      have zR68 := congrArg Int32.toInt (st67.sz w1.lR.1)
      have zQ68 := congrArg Int32.toInt (st67.sz w1.lQ.1)
      have w68 := w1.f st67
      have f68_0 := f1_0.tr st67
      conv => whnf
      exact ⟨trivial, ⟨Nat.le_of_ble_eq_true rfl, Nat.le_of_ble_eq_true rfl⟩, j_MQ.no w f68_0 tH66 (j_cqn (fun z => by obtain ⟨⟨z1, z2⟩, z3⟩ := z; have z2 : a.toInt < (j_it h G 2).toInt := z2; omega)) (by decide)⟩
set_option maxHeartbeats 4000000 in
set_option maxRecDepth 20000 in
theorem c_Mo_print {ρ : Nat → Nat} {h : j_H} {m P G R Q : Nat} {a : Int32} {b : Int32} (w : j_MX ρ h m P G R Q)  : j_Ct 207 16 763 2 50 [j_r (some m), j_i a, j_i b] h (fun v h' => (∃ ρ', j_MX ρ' h' m P G R Q) ∧ (j_Mg m G R Q h h' ∧ ∀ k, j_aK k = true → j_am h' m P G R k = j_am h m P G R k) ∧ ∃ r, v = some (j_i r)) j_no := by
  refine j_intro km_207 (Nat.le_of_ble_eq_true rfl) ?_
  intro J hJ hF
  have wb := w.b
  refine hJ [] 400 _ _ _ _ _ _ ?_
  conv => whnf
  refine ⟨_, rfl, w.km, ?_⟩
  show j_go _ _ _ _ _ _ _ _ _ _ (j_up h m 0 (j_i (Int32.ofInt (0)))) _ _
  have st1 : j_Mf ρ m h (j_up h m 0 (j_i (Int32.ofInt (0)))) := j_Mf.fi w.km (by decide)
  generalize j_up h m 0 (j_i (Int32.ofInt (0))) = H1 at st1 ⊢
  have zG1 := congrArg Int32.toInt (st1.sz w.lG.1)
  have zR1 := congrArg Int32.toInt (st1.sz w.lR.1)
  have zQ1 := congrArg Int32.toInt (st1.sz w.lQ.1)
  have w1 := w.f st1
  have f1_0 := (j_Mf.rf : j_Mf ρ m h h).tr st1
  conv => whnf
  refine ⟨w1.km, rfl, _, _, _, _, _, _, c_Mo_isRun w1, ⟨Nat.le_of_ble_eq_true rfl, Nat.le_of_ble_eq_true rfl, Nat.le_of_ble_eq_true rfl, Nat.le_of_ble_eq_true rfl⟩, fun _ _ z => False.elim z, ?_⟩
  rintro v9 h9 ⟨e9, r2, rfl, zr2, mr2⟩
  obtain rfl : H1 = h9 := e9.symm
  conv => whnf
  refine ⟨fun c3 => ?_, fun c3 => ?_⟩
  · have c3 : (r2).toInt = 0 := c3
    have q4 : (Int32.ofInt (1)).toInt = 1 := by decide
    conv => whnf
    refine ⟨w1.km, rfl, _, _, _, _, _, _, c_Mo_refuse w1, ⟨Nat.le_of_ble_eq_true rfl, Nat.le_of_ble_eq_true rfl, Nat.le_of_ble_eq_true rfl, Nat.le_of_ble_eq_true rfl⟩, fun _ _ z => False.elim z, ?_⟩
    rintro v9 H6 ⟨st7, r5, rfl⟩
    have zG8 := congrArg Int32.toInt (st7.sz w1.lG.1)
    have zR8 := congrArg Int32.toInt (st7.sz w1.lR.1)
    have zQ8 := congrArg Int32.toInt (st7.sz w1.lQ.1)
    have w8 := w1.f st7
    have f8_0 := f1_0.tr st7
    conv => whnf
    exact ⟨trivial, ⟨Nat.le_of_ble_eq_true rfl, Nat.le_of_ble_eq_true rfl⟩, ⟨_, w8⟩, ⟨f8_0.mg w, f8_0.am w⟩, _, rfl⟩
  · have c3 : ¬ (r2).toInt = 0 := c3
    conv => whnf
    refine ⟨_, rfl, w1.km, fun o9 eo => ?_⟩
    obtain rfl : o9 = some Q := eo.symm.trans w1.eQ
    conv => whnf
    refine ⟨w1.lQ.1, rfl, _, _, _, _, _, _, c_AL_size (h := H1) w1.lQ j_Sc.rf j_sf_ok, ⟨Nat.le_of_ble_eq_true rfl, Nat.le_of_ble_eq_true rfl, Nat.le_of_ble_eq_true rfl, Nat.le_of_ble_eq_true rfl⟩, fun _ _ z => False.elim z, ?_⟩
    rintro v9 h9 ⟨e9, rfl⟩
    obtain rfl : H1 = h9 := e9.symm
    have q10 := j_sub1 (x := (j_it H1 Q 2)) (by omega)
    have q11 : (Int32.ofInt (-1)).toInt = -1 := by decide
    conv => whnf
    refine ⟨rfl, _, _, _, _, _, _, c_Mo_is, ⟨Nat.le_of_ble_eq_true rfl, Nat.le_of_ble_eq_true rfl, Nat.le_of_ble_eq_true rfl, Nat.le_of_ble_eq_true rfl⟩, fun _ _ z => False.elim z, ?_⟩
    rintro v9 h9 ⟨e9, r12, rfl, zr12, mr12⟩
    obtain rfl : H1 = h9 := e9.symm
    conv => whnf
    refine ⟨fun c13 => ?_, fun c13 => ?_⟩
    · have c13 : ¬ (r12).toInt = 0 := c13
      conv => whnf
      refine ⟨_, rfl, w1.km, fun o14 eo => ?_⟩
      obtain rfl : o14 = some Q := eo.symm.trans w1.eQ
      conv => whnf
      refine ⟨w1.lQ.1, rfl, _, _, _, _, _, _, c_AL_size (h := H1) w1.lQ j_Sc.rf j_sf_ok, ⟨Nat.le_of_ble_eq_true rfl, Nat.le_of_ble_eq_true rfl, Nat.le_of_ble_eq_true rfl, Nat.le_of_ble_eq_true rfl⟩, fun _ _ z => False.elim z, ?_⟩
      rintro v9 h9 ⟨e9, rfl⟩
      obtain rfl : H1 = h9 := e9.symm
      have q15 : ((Int8.ofInt (10)).toInt32).toInt = 10 := by decide
      conv => whnf
      refine ⟨fun c16 => ?_, fun c16 => ?_⟩
      · have c16 : ((j_it H1 Q 2)).toInt = ((Int8.ofInt (10)).toInt32).toInt := c16
        have q17 : (Int32.ofInt (2)).toInt = 2 := by decide
        conv => whnf
        refine ⟨w1.km, rfl, _, _, _, _, _, _, c_Mo_refuse w1, ⟨Nat.le_of_ble_eq_true rfl, Nat.le_of_ble_eq_true rfl, Nat.le_of_ble_eq_true rfl, Nat.le_of_ble_eq_true rfl⟩, fun _ _ z => False.elim z, ?_⟩
        rintro v9 H19 ⟨st20, r18, rfl⟩
        have zG21 := congrArg Int32.toInt (st20.sz w1.lG.1)
        have zR21 := congrArg Int32.toInt (st20.sz w1.lR.1)
        have zQ21 := congrArg Int32.toInt (st20.sz w1.lQ.1)
        have w21 := w1.f st20
        have f21_0 := f1_0.tr st20
        conv => whnf
        exact ⟨trivial, ⟨Nat.le_of_ble_eq_true rfl, Nat.le_of_ble_eq_true rfl⟩, ⟨_, w21⟩, ⟨f21_0.mg w, f21_0.am w⟩, _, rfl⟩
      · have c16 : ¬ ((j_it H1 Q 2)).toInt = ((Int8.ofInt (10)).toInt32).toInt := c16
        conv => whnf
        refine ⟨_, rfl, w1.km, fun o22 eo => ?_⟩
        obtain rfl : o22 = some R := eo.symm.trans w1.eR
        conv => whnf
        refine ⟨w1.lR.1, rfl, _, _, _, _, _, _, c_AL_get (h := H1) w1.lR j_Sc.rf j_sf_ok (by omega) (by omega), ⟨Nat.le_of_ble_eq_true rfl, Nat.le_of_ble_eq_true rfl, Nat.le_of_ble_eq_true rfl, Nat.le_of_ble_eq_true rfl⟩, fun _ _ z => False.elim z, ?_⟩
        rintro v9 h9 ⟨e9, g23, rfl, kg23, xg23⟩
        obtain rfl : H1 = h9 := e9.symm
        have feg23 := w1.aR.get (by omega) (by omega) xg23
        conv => whnf
        refine ⟨Or.inr ⟨_, rfl, kg23⟩, ?_⟩
        conv => whnf
        refine ⟨_, rfl, kg23, fun x24 ex24 => ?_⟩
        conv => whnf
        refine ⟨fun c25 => ?_, fun c25 => ?_⟩
        · have c25 : ¬ (x24).toInt = 0 := c25
          have q26 : (Int32.ofInt (2)).toInt = 2 := by decide
          conv => whnf
          refine ⟨w1.km, rfl, _, _, _, _, _, _, c_Mo_refuse w1, ⟨Nat.le_of_ble_eq_true rfl, Nat.le_of_ble_eq_true rfl, Nat.le_of_ble_eq_true rfl, Nat.le_of_ble_eq_true rfl⟩, fun _ _ z => False.elim z, ?_⟩
          rintro v9 H28 ⟨st29, r27, rfl⟩
          have zG30 := congrArg Int32.toInt (st29.sz w1.lG.1)
          have zR30 := congrArg Int32.toInt (st29.sz w1.lR.1)
          have zQ30 := congrArg Int32.toInt (st29.sz w1.lQ.1)
          have w30 := w1.f st29
          have f30_0 := f1_0.tr st29
          conv => whnf
          exact ⟨trivial, ⟨Nat.le_of_ble_eq_true rfl, Nat.le_of_ble_eq_true rfl⟩, ⟨_, w30⟩, ⟨f30_0.mg w, f30_0.am w⟩, _, rfl⟩
        · have c25 : ¬ ¬ (x24).toInt = 0 := c25
          have q31 : (Int32.ofInt (-1)).toInt = -1 := by decide
          have u32 := j_ub b
          conv => whnf
          refine ⟨fun c33 => ?_, fun c33 => ?_⟩
          · have c33 : (b).toInt = (Int32.ofInt (-1)).toInt := c33
            conv => whnf
            refine ⟨_, rfl, w1.km, fun o34 eo => ?_⟩
            obtain rfl : o34 = some Q := eo.symm.trans w1.eQ
            have q35 : (Int32.ofInt (3)).toInt = 3 := by decide
            conv => whnf
            have clb36 := j_clamp (i := Int32.ofInt (3)) (by omega)
            refine ⟨⟨fun z => absurd (j_l0.mp z) (by omega), by omega⟩, ⟨Nat.le_of_ble_eq_true rfl, Nat.le_of_ble_eq_true rfl⟩, fun b36 hbb36 => ?_⟩
            show j_go _ _ _ _ _ _ _ _ _ _ (j_nw H1 b36 (.inr 0) (Int32.ofInt (3)).toNatClampNeg) _ _
            have st37 : j_Mf ρ m H1 (j_nw H1 b36 (.inr 0) (Int32.ofInt (3)).toNatClampNeg) := j_Mf.nw w1.km hbb36 (fun _ z => nomatch z)
            have kb36 : j_kd (j_nw H1 b36 (.inr 0) (Int32.ofInt (3)).toNatClampNeg) b36 = some (.inr 0) := if_pos rfl
            have nb36 : j_ln (j_nw H1 b36 (.inr 0) (Int32.ofInt (3)).toNatClampNeg) b36 = (Int32.ofInt (3)).toNatClampNeg := if_pos rfl
            have rb36 := w1.rz b36 hbb36
            generalize j_nw H1 b36 (.inr 0) (Int32.ofInt (3)).toNatClampNeg = H37 at st37 kb36 nb36 ⊢
            have zG38 := congrArg Int32.toInt (st37.sz w1.lG.1)
            have zR38 := congrArg Int32.toInt (st37.sz w1.lR.1)
            have zQ38 := congrArg Int32.toInt (st37.sz w1.lQ.1)
            have w38 := w1.f st37
            have f38_0 := f1_0.tr st37
            have q39 : (Int32.ofInt (0)).toInt = 0 := by decide
            conv => whnf
            refine ⟨_, rfl, kb36, j_vp (by omega) (by omega), ?_⟩
            have ct40 : j_it (j_ui H37 b36 (Int32.ofInt (0)).toNatClampNeg a) b36 0 = a := by rw [show (Int32.ofInt (0)).toNatClampNeg = 0 by decide]; exact (show j_u (j_it H37) b36 0 a b36 0 = _ from j_u_at)
            show j_go _ _ _ _ _ _ _ _ _ _ (j_ui H37 b36 (Int32.ofInt (0)).toNatClampNeg a) _ _
            have st41 : j_Mf ρ m H37 (j_ui H37 b36 (Int32.ofInt (0)).toNatClampNeg a) := j_Mf.ar w38.km kb36 (⟨by omega, fun z => absurd z (by omega)⟩)
            generalize j_ui H37 b36 (Int32.ofInt (0)).toNatClampNeg a = H41 at st41 ct40 ⊢
            have zG41 := congrArg Int32.toInt (st41.sz w38.lG.1)
            have zR41 := congrArg Int32.toInt (st41.sz w38.lR.1)
            have zQ41 := congrArg Int32.toInt (st41.sz w38.lQ.1)
            have n41_b36 := st41.ln kb36
            have k41_b36 := st41.kd kb36
            have w41 := w38.f st41
            have f41_0 := f38_0.tr st41
            conv => whnf
            refine ⟨_, rfl, w41.km, fun o42 eo => ?_⟩
            obtain rfl : o42 = some P := eo.symm.trans w41.eP
            conv => whnf
            refine ⟨_, rfl, w41.km, fun o43 eo => ?_⟩
            obtain rfl : o43 = some R := eo.symm.trans w41.eR
            conv => whnf
            refine ⟨w41.lR.1, rfl, _, _, _, _, _, _, c_AL_get (h := H41) w41.lR j_Sc.rf j_sf_ok (by omega) (by omega), ⟨Nat.le_of_ble_eq_true rfl, Nat.le_of_ble_eq_true rfl, Nat.le_of_ble_eq_true rfl, Nat.le_of_ble_eq_true rfl⟩, fun _ _ z => False.elim z, ?_⟩
            rintro v9 h9 ⟨e9, g44, rfl, kg44, xg44⟩
            obtain rfl : H41 = h9 := e9.symm
            have feg44 := w41.aR.get (by omega) (by omega) xg44
            conv => whnf
            refine ⟨Or.inr ⟨_, rfl, kg44⟩, ?_⟩
            conv => whnf
            refine ⟨_, rfl, kg44, fun x45 ex45 => ?_⟩
            have hx45 : 0 ≤ x45.toInt ∧ x45.toInt ≤ 1 := by rw [← ex45]; exact feg44
            have n46 := w41.nP
            conv => whnf
            refine ⟨_, _, rfl, w41.kP, rfl, j_vp (by omega) (by omega), fun x47 ex47 => ?_⟩
            have hx47 : x47.toInt ≠ 0 := j_nzP w41 ex47 (by omega) (by omega)
            have q48 : (Int32.ofInt (1)).toInt = 1 := by decide
            conv => whnf
            refine ⟨_, rfl, k41_b36, j_vp (by omega) (by omega), ?_⟩
            have ct49 : j_it (j_ui H41 b36 (Int32.ofInt (1)).toNatClampNeg x47) b36 0 = a := by rw [show (Int32.ofInt (1)).toNatClampNeg = 1 by decide]; exact (show j_u (j_it H41) b36 1 x47 b36 0 = j_it H41 b36 0 from j_u_nk (by decide)).trans ct40
            have ct50 : j_it (j_ui H41 b36 (Int32.ofInt (1)).toNatClampNeg x47) b36 1 = x47 := by rw [show (Int32.ofInt (1)).toNatClampNeg = 1 by decide]; exact (show j_u (j_it H41) b36 1 x47 b36 1 = _ from j_u_at)
            show j_go _ _ _ _ _ _ _ _ _ _ (j_ui H41 b36 (Int32.ofInt (1)).toNatClampNeg x47) _ _
            have st51 : j_Mf ρ m H41 (j_ui H41 b36 (Int32.ofInt (1)).toNatClampNeg x47) := j_Mf.ar w41.km k41_b36 (⟨by omega, fun z => absurd z (by omega)⟩)
            generalize j_ui H41 b36 (Int32.ofInt (1)).toNatClampNeg x47 = H51 at st51 ct49 ct50 ⊢
            have zG51 := congrArg Int32.toInt (st51.sz w41.lG.1)
            have zR51 := congrArg Int32.toInt (st51.sz w41.lR.1)
            have zQ51 := congrArg Int32.toInt (st51.sz w41.lQ.1)
            have n51_b36 := st51.ln k41_b36
            have k51_b36 := st51.kd k41_b36
            have w51 := w41.f st51
            have f51_0 := f41_0.tr st51
            have q52 : (Int32.ofInt (2)).toInt = 2 := by decide
            conv => whnf
            refine ⟨_, rfl, k51_b36, j_vp (by omega) (by omega), ?_⟩
            have ct53 : j_it (j_ui H51 b36 (Int32.ofInt (2)).toNatClampNeg b) b36 0 = a := by rw [show (Int32.ofInt (2)).toNatClampNeg = 2 by decide]; exact (show j_u (j_it H51) b36 2 b b36 0 = j_it H51 b36 0 from j_u_nk (by decide)).trans ct49
            have ct54 : j_it (j_ui H51 b36 (Int32.ofInt (2)).toNatClampNeg b) b36 1 = x47 := by rw [show (Int32.ofInt (2)).toNatClampNeg = 2 by decide]; exact (show j_u (j_it H51) b36 2 b b36 1 = j_it H51 b36 1 from j_u_nk (by decide)).trans ct50
            have ct55 : j_it (j_ui H51 b36 (Int32.ofInt (2)).toNatClampNeg b) b36 2 = b := by rw [show (Int32.ofInt (2)).toNatClampNeg = 2 by decide]; exact (show j_u (j_it H51) b36 2 b b36 2 = _ from j_u_at)
            show j_go _ _ _ _ _ _ _ _ _ _ (j_ui H51 b36 (Int32.ofInt (2)).toNatClampNeg b) _ _
            have st56 : j_Mf ρ m H51 (j_ui H51 b36 (Int32.ofInt (2)).toNatClampNeg b) := j_Mf.ar w51.km k51_b36 (⟨by omega, fun z => absurd z (by omega)⟩)
            generalize j_ui H51 b36 (Int32.ofInt (2)).toNatClampNeg b = H56 at st56 ct53 ct54 ct55 ⊢
            have zG56 := congrArg Int32.toInt (st56.sz w51.lG.1)
            have zR56 := congrArg Int32.toInt (st56.sz w51.lR.1)
            have zQ56 := congrArg Int32.toInt (st56.sz w51.lQ.1)
            have n56_b36 := st56.ln k51_b36
            have k56_b36 := st56.kd k51_b36
            have w56 := w51.f st56
            have f56_0 := f51_0.tr st56
            have zb := w56.b
            obtain ⟨ρ1, w1, ga⟩ := w56.roleQ k56_b36 rb36
            obtain ⟨kL, z0, z1, arr, t, e1, e2, e3, e4, e5, e6⟩ := id w1.lQ
            conv => whnf
            refine ⟨kL, rfl, _, _, _, _, _, _, c_AL_add_53 kL e1 e2 e3 e5.2 z0 e4 (by omega) e5.1 (fun j hj => by obtain ⟨y, y1, y2⟩ := e6 j hj; exact ⟨y, y1, Or.inr y2⟩) (Or.inr k56_b36), ⟨Nat.le_of_ble_eq_true rfl, Nat.le_of_ble_eq_true rfl, Nat.le_of_ble_eq_true rfl, Nat.le_of_ble_eq_true rfl⟩, fun _ _ z => False.elim z, ?_⟩
            rintro v9 H57 ⟨⟨rr9, rfl⟩, ad⟩
            have wz := w1.adQ e1 ad (by omega) k56_b36 ⟨ga, by omega, by rw [ct53]; omega, by rw [ct53]; omega, by rw [ct55, j_clamp (by omega)]; omega⟩
            have zz := wz.b
            have iG := (ad.li kL e1 e2 w1.ap.2.1.sy w1.lG).2.1 1
            have iR := (ad.li kL e1 e2 w1.ap.2.2.sy w1.lR).2.1 1
            have mg : j_Mg m G R Q h H57 := j_Mg.ad w f56_0 ad (Or.inr (Or.inr rfl)) e1 e2 e3 (fun L9 q n => by
              rcases q with rfl | rfl | rfl
              · exact iG.2
              · exact iR.2
              · exact absurd rfl n)
            conv => whnf
            refine ⟨_, rfl, wz.km, fun o58 eo => ?_⟩
            obtain rfl : o58 = some Q := eo.symm.trans wz.eQ
            conv => whnf
            refine ⟨wz.lQ.1, rfl, _, _, _, _, _, _, c_AL_size (h := H57) wz.lQ j_Sc.rf j_sf_ok, ⟨Nat.le_of_ble_eq_true rfl, Nat.le_of_ble_eq_true rfl, Nat.le_of_ble_eq_true rfl, Nat.le_of_ble_eq_true rfl⟩, fun _ _ z => False.elim z, ?_⟩
            rintro v9 h9 ⟨e9, rfl⟩
            obtain rfl : H57 = h9 := e9.symm
            have q59 := j_sub1 (x := (j_it H57 Q 2)) (by omega)
            conv => whnf
            exact ⟨trivial, ⟨Nat.le_of_ble_eq_true rfl, Nat.le_of_ble_eq_true rfl⟩, ⟨_, wz⟩, ⟨mg, fun k hk => (w1.amQ e1 ad k hk).trans (f56_0.am w k hk)⟩, _, rfl⟩
          · have c33 : ¬ (b).toInt = (Int32.ofInt (-1)).toInt := c33
            conv => whnf
            refine ⟨w1.km, rfl, _, _, _, _, _, _, c_Mo_stands w1 ⟨by omega, by omega⟩, ⟨Nat.le_of_ble_eq_true rfl, Nat.le_of_ble_eq_true rfl, Nat.le_of_ble_eq_true rfl, Nat.le_of_ble_eq_true rfl⟩, fun _ _ z => False.elim z, ?_⟩
            rintro v9 h9 ⟨e9, r60, rfl, zr60⟩
            obtain rfl : H1 = h9 := e9.symm
            conv => whnf
            refine ⟨fun c61 => ?_, fun c61 => ?_⟩
            · have c61 : ¬ (r60).toInt = 0 := c61
              conv => whnf
              refine ⟨_, rfl, w1.km, fun o62 eo => ?_⟩
              obtain rfl : o62 = some Q := eo.symm.trans w1.eQ
              have q63 : (Int32.ofInt (3)).toInt = 3 := by decide
              conv => whnf
              have clb64 := j_clamp (i := Int32.ofInt (3)) (by omega)
              refine ⟨⟨fun z => absurd (j_l0.mp z) (by omega), by omega⟩, ⟨Nat.le_of_ble_eq_true rfl, Nat.le_of_ble_eq_true rfl⟩, fun b64 hbb64 => ?_⟩
              show j_go _ _ _ _ _ _ _ _ _ _ (j_nw H1 b64 (.inr 0) (Int32.ofInt (3)).toNatClampNeg) _ _
              have st65 : j_Mf ρ m H1 (j_nw H1 b64 (.inr 0) (Int32.ofInt (3)).toNatClampNeg) := j_Mf.nw w1.km hbb64 (fun _ z => nomatch z)
              have kb64 : j_kd (j_nw H1 b64 (.inr 0) (Int32.ofInt (3)).toNatClampNeg) b64 = some (.inr 0) := if_pos rfl
              have nb64 : j_ln (j_nw H1 b64 (.inr 0) (Int32.ofInt (3)).toNatClampNeg) b64 = (Int32.ofInt (3)).toNatClampNeg := if_pos rfl
              have rb64 := w1.rz b64 hbb64
              generalize j_nw H1 b64 (.inr 0) (Int32.ofInt (3)).toNatClampNeg = H65 at st65 kb64 nb64 ⊢
              have zG66 := congrArg Int32.toInt (st65.sz w1.lG.1)
              have zR66 := congrArg Int32.toInt (st65.sz w1.lR.1)
              have zQ66 := congrArg Int32.toInt (st65.sz w1.lQ.1)
              have w66 := w1.f st65
              have f66_0 := f1_0.tr st65
              have q67 : (Int32.ofInt (0)).toInt = 0 := by decide
              conv => whnf
              refine ⟨_, rfl, kb64, j_vp (by omega) (by omega), ?_⟩
              have ct68 : j_it (j_ui H65 b64 (Int32.ofInt (0)).toNatClampNeg a) b64 0 = a := by rw [show (Int32.ofInt (0)).toNatClampNeg = 0 by decide]; exact (show j_u (j_it H65) b64 0 a b64 0 = _ from j_u_at)
              show j_go _ _ _ _ _ _ _ _ _ _ (j_ui H65 b64 (Int32.ofInt (0)).toNatClampNeg a) _ _
              have st69 : j_Mf ρ m H65 (j_ui H65 b64 (Int32.ofInt (0)).toNatClampNeg a) := j_Mf.ar w66.km kb64 (⟨by omega, fun z => absurd z (by omega)⟩)
              generalize j_ui H65 b64 (Int32.ofInt (0)).toNatClampNeg a = H69 at st69 ct68 ⊢
              have zG69 := congrArg Int32.toInt (st69.sz w66.lG.1)
              have zR69 := congrArg Int32.toInt (st69.sz w66.lR.1)
              have zQ69 := congrArg Int32.toInt (st69.sz w66.lQ.1)
              have n69_b64 := st69.ln kb64
              have k69_b64 := st69.kd kb64
              have w69 := w66.f st69
              have f69_0 := f66_0.tr st69
              conv => whnf
              refine ⟨_, rfl, w69.km, fun o70 eo => ?_⟩
              obtain rfl : o70 = some P := eo.symm.trans w69.eP
              conv => whnf
              refine ⟨_, rfl, w69.km, fun o71 eo => ?_⟩
              obtain rfl : o71 = some R := eo.symm.trans w69.eR
              conv => whnf
              refine ⟨w69.lR.1, rfl, _, _, _, _, _, _, c_AL_get (h := H69) w69.lR j_Sc.rf j_sf_ok (by omega) (by omega), ⟨Nat.le_of_ble_eq_true rfl, Nat.le_of_ble_eq_true rfl, Nat.le_of_ble_eq_true rfl, Nat.le_of_ble_eq_true rfl⟩, fun _ _ z => False.elim z, ?_⟩
              rintro v9 h9 ⟨e9, g72, rfl, kg72, xg72⟩
              obtain rfl : H69 = h9 := e9.symm
              have feg72 := w69.aR.get (by omega) (by omega) xg72
              conv => whnf
              refine ⟨Or.inr ⟨_, rfl, kg72⟩, ?_⟩
              conv => whnf
              refine ⟨_, rfl, kg72, fun x73 ex73 => ?_⟩
              have hx73 : 0 ≤ x73.toInt ∧ x73.toInt ≤ 1 := by rw [← ex73]; exact feg72
              have n74 := w69.nP
              conv => whnf
              refine ⟨_, _, rfl, w69.kP, rfl, j_vp (by omega) (by omega), fun x75 ex75 => ?_⟩
              have hx75 : x75.toInt ≠ 0 := j_nzP w69 ex75 (by omega) (by omega)
              have q76 : (Int32.ofInt (1)).toInt = 1 := by decide
              conv => whnf
              refine ⟨_, rfl, k69_b64, j_vp (by omega) (by omega), ?_⟩
              have ct77 : j_it (j_ui H69 b64 (Int32.ofInt (1)).toNatClampNeg x75) b64 0 = a := by rw [show (Int32.ofInt (1)).toNatClampNeg = 1 by decide]; exact (show j_u (j_it H69) b64 1 x75 b64 0 = j_it H69 b64 0 from j_u_nk (by decide)).trans ct68
              have ct78 : j_it (j_ui H69 b64 (Int32.ofInt (1)).toNatClampNeg x75) b64 1 = x75 := by rw [show (Int32.ofInt (1)).toNatClampNeg = 1 by decide]; exact (show j_u (j_it H69) b64 1 x75 b64 1 = _ from j_u_at)
              show j_go _ _ _ _ _ _ _ _ _ _ (j_ui H69 b64 (Int32.ofInt (1)).toNatClampNeg x75) _ _
              have st79 : j_Mf ρ m H69 (j_ui H69 b64 (Int32.ofInt (1)).toNatClampNeg x75) := j_Mf.ar w69.km k69_b64 (⟨by omega, fun z => absurd z (by omega)⟩)
              generalize j_ui H69 b64 (Int32.ofInt (1)).toNatClampNeg x75 = H79 at st79 ct77 ct78 ⊢
              have zG79 := congrArg Int32.toInt (st79.sz w69.lG.1)
              have zR79 := congrArg Int32.toInt (st79.sz w69.lR.1)
              have zQ79 := congrArg Int32.toInt (st79.sz w69.lQ.1)
              have n79_b64 := st79.ln k69_b64
              have k79_b64 := st79.kd k69_b64
              have w79 := w69.f st79
              have f79_0 := f69_0.tr st79
              have q80 : (Int32.ofInt (2)).toInt = 2 := by decide
              conv => whnf
              refine ⟨_, rfl, k79_b64, j_vp (by omega) (by omega), ?_⟩
              have ct81 : j_it (j_ui H79 b64 (Int32.ofInt (2)).toNatClampNeg b) b64 0 = a := by rw [show (Int32.ofInt (2)).toNatClampNeg = 2 by decide]; exact (show j_u (j_it H79) b64 2 b b64 0 = j_it H79 b64 0 from j_u_nk (by decide)).trans ct77
              have ct82 : j_it (j_ui H79 b64 (Int32.ofInt (2)).toNatClampNeg b) b64 1 = x75 := by rw [show (Int32.ofInt (2)).toNatClampNeg = 2 by decide]; exact (show j_u (j_it H79) b64 2 b b64 1 = j_it H79 b64 1 from j_u_nk (by decide)).trans ct78
              have ct83 : j_it (j_ui H79 b64 (Int32.ofInt (2)).toNatClampNeg b) b64 2 = b := by rw [show (Int32.ofInt (2)).toNatClampNeg = 2 by decide]; exact (show j_u (j_it H79) b64 2 b b64 2 = _ from j_u_at)
              show j_go _ _ _ _ _ _ _ _ _ _ (j_ui H79 b64 (Int32.ofInt (2)).toNatClampNeg b) _ _
              have st84 : j_Mf ρ m H79 (j_ui H79 b64 (Int32.ofInt (2)).toNatClampNeg b) := j_Mf.ar w79.km k79_b64 (⟨by omega, fun z => absurd z (by omega)⟩)
              generalize j_ui H79 b64 (Int32.ofInt (2)).toNatClampNeg b = H84 at st84 ct81 ct82 ct83 ⊢
              have zG84 := congrArg Int32.toInt (st84.sz w79.lG.1)
              have zR84 := congrArg Int32.toInt (st84.sz w79.lR.1)
              have zQ84 := congrArg Int32.toInt (st84.sz w79.lQ.1)
              have n84_b64 := st84.ln k79_b64
              have k84_b64 := st84.kd k79_b64
              have w84 := w79.f st84
              have f84_0 := f79_0.tr st84
              have zb := w84.b
              obtain ⟨ρ1, w1, ga⟩ := w84.roleQ k84_b64 rb64
              obtain ⟨kL, z0, z1, arr, t, e1, e2, e3, e4, e5, e6⟩ := id w1.lQ
              conv => whnf
              refine ⟨kL, rfl, _, _, _, _, _, _, c_AL_add_53 kL e1 e2 e3 e5.2 z0 e4 (by omega) e5.1 (fun j hj => by obtain ⟨y, y1, y2⟩ := e6 j hj; exact ⟨y, y1, Or.inr y2⟩) (Or.inr k84_b64), ⟨Nat.le_of_ble_eq_true rfl, Nat.le_of_ble_eq_true rfl, Nat.le_of_ble_eq_true rfl, Nat.le_of_ble_eq_true rfl⟩, fun _ _ z => False.elim z, ?_⟩
              rintro v9 H85 ⟨⟨rr9, rfl⟩, ad⟩
              have wz := w1.adQ e1 ad (by omega) k84_b64 ⟨ga, by omega, by rw [ct81]; omega, by rw [ct81]; omega, by rw [ct83, j_clamp (by omega)]; omega⟩
              have zz := wz.b
              have iG := (ad.li kL e1 e2 w1.ap.2.1.sy w1.lG).2.1 1
              have iR := (ad.li kL e1 e2 w1.ap.2.2.sy w1.lR).2.1 1
              have mg : j_Mg m G R Q h H85 := j_Mg.ad w f84_0 ad (Or.inr (Or.inr rfl)) e1 e2 e3 (fun L9 q n => by
                rcases q with rfl | rfl | rfl
                · exact iG.2
                · exact iR.2
                · exact absurd rfl n)
              conv => whnf
              refine ⟨_, rfl, wz.km, fun o86 eo => ?_⟩
              obtain rfl : o86 = some Q := eo.symm.trans wz.eQ
              conv => whnf
              refine ⟨wz.lQ.1, rfl, _, _, _, _, _, _, c_AL_size (h := H85) wz.lQ j_Sc.rf j_sf_ok, ⟨Nat.le_of_ble_eq_true rfl, Nat.le_of_ble_eq_true rfl, Nat.le_of_ble_eq_true rfl, Nat.le_of_ble_eq_true rfl⟩, fun _ _ z => False.elim z, ?_⟩
              rintro v9 h9 ⟨e9, rfl⟩
              obtain rfl : H85 = h9 := e9.symm
              have q87 := j_sub1 (x := (j_it H85 Q 2)) (by omega)
              conv => whnf
              exact ⟨trivial, ⟨Nat.le_of_ble_eq_true rfl, Nat.le_of_ble_eq_true rfl⟩, ⟨_, wz⟩, ⟨mg, fun k hk => (w1.amQ e1 ad k hk).trans (f84_0.am w k hk)⟩, _, rfl⟩
            · have c61 : ¬ ¬ (r60).toInt = 0 := c61
              have q88 : (Int32.ofInt (2)).toInt = 2 := by decide
              conv => whnf
              refine ⟨w1.km, rfl, _, _, _, _, _, _, c_Mo_refuse w1, ⟨Nat.le_of_ble_eq_true rfl, Nat.le_of_ble_eq_true rfl, Nat.le_of_ble_eq_true rfl, Nat.le_of_ble_eq_true rfl⟩, fun _ _ z => False.elim z, ?_⟩
              rintro v9 H90 ⟨st91, r89, rfl⟩
              have zG92 := congrArg Int32.toInt (st91.sz w1.lG.1)
              have zR92 := congrArg Int32.toInt (st91.sz w1.lR.1)
              have zQ92 := congrArg Int32.toInt (st91.sz w1.lQ.1)
              have w92 := w1.f st91
              have f92_0 := f1_0.tr st91
              conv => whnf
              exact ⟨trivial, ⟨Nat.le_of_ble_eq_true rfl, Nat.le_of_ble_eq_true rfl⟩, ⟨_, w92⟩, ⟨f92_0.mg w, f92_0.am w⟩, _, rfl⟩
    · have c13 : ¬ ¬ (r12).toInt = 0 := c13
      have q93 : (Int32.ofInt (1)).toInt = 1 := by decide
      conv => whnf
      refine ⟨w1.km, rfl, _, _, _, _, _, _, c_Mo_refuse w1, ⟨Nat.le_of_ble_eq_true rfl, Nat.le_of_ble_eq_true rfl, Nat.le_of_ble_eq_true rfl, Nat.le_of_ble_eq_true rfl⟩, fun _ _ z => False.elim z, ?_⟩
      rintro v9 H95 ⟨st96, r94, rfl⟩
      have zG97 := congrArg Int32.toInt (st96.sz w1.lG.1)
      have zR97 := congrArg Int32.toInt (st96.sz w1.lR.1)
      have zQ97 := congrArg Int32.toInt (st96.sz w1.lQ.1)
      have w97 := w1.f st96
      have f97_0 := f1_0.tr st96
      conv => whnf
      exact ⟨trivial, ⟨Nat.le_of_ble_eq_true rfl, Nat.le_of_ble_eq_true rfl⟩, ⟨_, w97⟩, ⟨f97_0.mg w, f97_0.am w⟩, _, rfl⟩
