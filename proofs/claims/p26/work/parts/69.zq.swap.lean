/-! the model: withdraw and swap, state for state -/
/-- only runs' ints written: the state -/
theorem z_wrR {ρ : Nat → Nat} {h : j_H} {m P G R Q : Nat} {it : Nat → Nat → Int32} (w : j_MX ρ h m P G R Q) (s : ∀ q f, j_kd h q ≠ none → ¬ (j_kd h q = some (.inl 11)) → it q f = j_it h q f) : z_eq (z_d (j_wi h it) m P G R Q) ((z_d h m P G R Q).1, (z_d h m P G R Q).2.1, (z_d h m P G R Q).2.2.1, fun k f => z_drE (j_wi h it) (z_ml h R k) f, (z_d h m P G R Q).2.2.2.2) := by
  have ot : ∀ {q c}, j_kd h q = some c → c ≠ .inl 11 → ∀ f, it q f = j_it h q f := fun {q c} hq hc f => s q f (j_nn hq) (fun z => by
    rw [hq] at z
    exact hc (Option.some.inj z))
  have nG : it G 2 = j_it h G 2 := ot w.lG.1 (by decide) 2
  have nR : it R 2 = j_it h R 2 := ot w.lR.1 (by decide) 2
  have nQ : it Q 2 = j_it h Q 2 := ot w.lQ.1 (by decide) 2
  refine ⟨fun k hk => ?_, fun k i t hk hi ht => ?_, fun k f hk hf => ?_, fun k f hk hf => z_dr_E, fun k f hk hf => ?_⟩
  · match k, hk with
    | 0, _ => exact nG
    | 1, _ => exact nR
    | 2, _ => exact nQ
    | 3, _ => exact ot w.kP (by decide) 0
    | 4, _ => exact ot w.kP (by decide) 1
    | 5, _ => exact ot w.km (by decide) 3
    | 6, _ => exact ot w.km (by decide) 2
    | n + 7, hk => omega
  · have hk : (k : Int) < (it G 2).toInt := hk
    rw [nG] at hk
    obtain ⟨b, b1, b2, b3, b4, b5⟩ := w.ga hk ht
    show it ((j_rf h (z_ml h G k) t).getD 0) i = z_dm h G k i t
    rw [b5, b1, Option.getD_some]
    exact ot b2 (by decide) i
  · have hk : (k : Int) < (it G 2).toInt := hk
    rw [nG] at hk
    exact ot (w.g hk).1 (by decide) _
  · have hk : (k : Int) < (it Q 2).toInt := hk
    rw [nQ] at hk
    exact ot (w.p hk).1 (by decide) _
/-- a run withdrawn -/
theorem z_wdr {ρ : Nat → Nat} {h : j_H} {m P G R Q e : Nat} {a : Int32} (w : j_MX ρ h m P G R Q) (ha : (a.toNatClampNeg : Int) < (j_it h R 2).toInt) (he : z_ml h R a.toNatClampNeg = e) : z_eq (z_d (j_wi h (j_u (j_it h) e 6 (Int32.ofInt 1))) m P G R Q) (n_withdraw (z_d h m P G R Q) a) := by
  have ke : j_kd h e = some (.inl 11) := by rw [← he]; exact (w.r ha).1
  refine (z_wrR (it := j_u (j_it h) e 6 (Int32.ofInt 1)) w (fun q f hq hn => j_u_ne (fun z => hn (by rw [z]; exact ke)))).tr ⟨fun k hk => rfl, fun k i t hk hi ht => rfl, fun k f hk hf => rfl, fun k f hk hf => ?_, fun k f hk hf => rfl⟩
  have hk : (k : Int) < (j_it h R 2).toInt := hk
  show z_drE (j_wi h (j_u (j_it h) e 6 (Int32.ofInt 1))) (z_ml h R k) f = if k = a.toNatClampNeg then (if f = 6 then Int32.ofInt 0 else z_dr h R k f) else z_dr h R k f
  have iv : ∀ q j, j_it (j_wi h (j_u (j_it h) e 6 (Int32.ofInt 1))) q j = if q = e ∧ j = 6 then Int32.ofInt 1 else j_it h q j := fun q j => j_uq
  rw [z_dr_E]
  unfold z_drE
  rw [iv, iv]
  by_cases z : k = a.toNatClampNeg
  · rw [if_pos z, z, he]
    by_cases y : f = 6
    · rw [if_pos y, if_pos y, if_pos (show e = e ∧ (6 : Nat) = 6 from ⟨rfl, rfl⟩)]
      exact if_neg (show ¬ (Int32.ofInt 1).toInt = 0 by decide)
    · rw [if_neg y, if_neg y, if_neg y, if_neg (fun v => y v.2)]
  · have ne : z_ml h R k ≠ e := fun v => z (w.ri hk ha (v.trans he.symm))
    rw [if_neg z, if_neg (show ¬ (z_ml h R k = e ∧ (6 : Nat) = 6) from fun v => ne v.1), if_neg (show ¬ (z_ml h R k = e ∧ f = 6) from fun v => ne v.1)]
/-- two labels exchanged -/
theorem z_exc {ρ : Nat → Nat} {h : j_H} {m P G R Q : Nat} {a b : Int32} (w : j_MX ρ h m P G R Q) (ha : (a.toNatClampNeg : Int) < (j_it h R 2).toInt) (hb : (b.toNatClampNeg : Int) < (j_it h R 2).toInt) (hab : a.toNatClampNeg ≠ b.toNatClampNeg) : z_eq (z_d (j_wi h (z_ex (j_it h) (z_ml h R a.toNatClampNeg) (z_ml h R b.toNatClampNeg))) m P G R Q) (n_swap (z_d h m P G R Q) a b) := by
  have ke := (w.r ha).1
  have kg := (w.r hb).1
  refine (z_wrR (it := z_ex (j_it h) (z_ml h R a.toNatClampNeg) (z_ml h R b.toNatClampNeg)) w (fun q f hq hn => z_ex_ne (fun z => hn (by rw [z]; exact ke)) (fun z => hn (by rw [z]; exact kg)))).tr ⟨fun k hk => rfl, fun k i t hk hi ht => rfl, fun k f hk hf => rfl, fun k f hk hf => ?_, fun k f hk hf => rfl⟩
  have hk : (k : Int) < (j_it h R 2).toInt := hk
  show z_drE (j_wi h (z_ex (j_it h) (z_ml h R a.toNatClampNeg) (z_ml h R b.toNatClampNeg))) (z_ml h R k) f = if f = 0 then (if k = a.toNatClampNeg then z_dr h R b.toNatClampNeg 0 else if k = b.toNatClampNeg then z_dr h R a.toNatClampNeg 0 else z_dr h R k 0) else z_dr h R k f
  have iv : ∀ q j, j_it (j_wi h (z_ex (j_it h) (z_ml h R a.toNatClampNeg) (z_ml h R b.toNatClampNeg))) q j = if j = 0 then (if q = z_ml h R b.toNatClampNeg then j_it h (z_ml h R a.toNatClampNeg) 0 else if q = z_ml h R a.toNatClampNeg then j_it h (z_ml h R b.toNatClampNeg) 0 else j_it h q 0) else j_it h q j := fun q j => z_exq
  have d0 : ∀ k, z_dr h R k 0 = j_it h (z_ml h R k) 0 := fun k => rfl
  rw [d0, d0, d0, z_dr_E]
  unfold z_drE
  rw [iv, iv, if_neg (show ¬ (6 : Nat) = 0 by decide)]
  by_cases y : f = 0
  · rw [if_neg (show ¬ f = 6 by omega), if_pos y, if_pos y]
    by_cases za : k = a.toNatClampNeg
    · rw [if_pos za, za, if_neg (fun v => hab (w.ri ha hb v)), if_pos rfl]
    · rw [if_neg za]
      by_cases zb : k = b.toNatClampNeg
      · rw [if_pos zb, zb, if_pos rfl]
      · rw [if_neg zb, if_neg (fun v => zb (w.ri hk hb v)), if_neg (fun v => za (w.ri hk ha v))]
  · rw [if_neg y, if_neg y]
theorem q_withdraw_c {A B : j_Z} {a : Int32} (e : z_eq A B) : q_withdraw A a = q_withdraw B a := by
  have e1 := e.1 1 (by decide)
  by_cases o : 0 ≤ a.toInt ∧ a.toInt < (A.1 1).toInt
  · have e6 := e.2.2.2.1 a.toNatClampNeg 6 (by unfold z_lt; rw [j_clamp o.1]; exact o.2) (by decide)
    unfold q_withdraw
    rw [e1, e6]
  · exact (j_cqn o).trans (j_cqn (by rw [← e1]; exact o)).symm
theorem q_swap_c {A B : j_Z} {a b : Int32} (e : z_eq A B) : q_swap A a b = q_swap B a b := by
  unfold q_swap
  rw [e.1 1 (by decide)]
set_option maxHeartbeats 4000000 in
set_option maxRecDepth 20000 in
theorem c_Mo_withdrawz {ρ : Nat → Nat} {h : j_H} {m P G R Q : Nat} {a : Int32} (w : j_MX ρ h m P G R Q)  : j_Ct 227 17 785 0 0 [j_r (some m), j_i a] h (z_MQ m P G R Q h (q_withdraw (z_d h m P G R Q) a) (a_withdraw (z_d h m P G R Q) a) (n_withdraw (z_d h m P G R Q) a)) j_no := by
  refine j_intro km_227 (Nat.le_of_ble_eq_true rfl) ?_
  intro J hJ hF
  have wb := w.b
  refine hJ [] 400 _ _ _ _ _ _ ?_
  conv => whnf
  refine ⟨_, rfl, w.km, ?_⟩
  show j_go _ _ _ _ _ _ _ _ _ _ (j_up h m 0 (j_i (Int32.ofInt (0)))) _ _
  have st1 : j_Mf ρ m h (j_up h m 0 (j_i (Int32.ofInt (0)))) := j_Mf.fi w.km (by decide)
  have tH1 : j_it (j_up h m 0 (j_i (Int32.ofInt (0)))) m 0 = Int32.ofInt 0 := j_upi
  generalize j_up h m 0 (j_i (Int32.ofInt (0))) = H1 at st1 tH1 ⊢
  have zG1 := congrArg Int32.toInt (st1.sz w.lG.1)
  have zR1 := congrArg Int32.toInt (st1.sz w.lR.1)
  have zQ1 := congrArg Int32.toInt (st1.sz w.lQ.1)
  have w1 := w.f st1
  have f1_0 := (j_Mf.rf : j_Mf ρ m h h).tr st1
  have E1 := z_mfd w st1
  have QP : q_withdraw (z_d h m P G R Q) a = q_withdraw (z_d H1 m P G R Q) a := q_withdraw_c E1.sy
  conv => whnf
  refine ⟨w1.km, rfl, _, _, _, _, _, _, c_Mo_isRunx w1, ⟨Nat.le_of_ble_eq_true rfl, Nat.le_of_ble_eq_true rfl, by (try dsimp only); omega, by (try dsimp only); omega⟩, fun _ _ z => False.elim z, ?_⟩
  rintro v9 h9 ⟨e9, r2, rfl, zr2⟩
  have mr2 := j_zy zr2
  obtain rfl : H1 = h9 := e9.symm
  conv => whnf
  refine ⟨fun c3 => ?_, fun c3 => ?_⟩
  · have c3 : ¬ (r2).toInt = 0 := c3
    conv => whnf
    refine ⟨_, rfl, w1.km, fun o4 eo => ?_⟩
    obtain rfl : o4 = some R := eo.symm.trans w1.eR
    conv => whnf
    refine ⟨w1.lR.1, rfl, _, _, _, _, _, _, c_AL_get (h := H1) w1.lR j_Sc.rf j_sf_ok (by omega) (by omega), ⟨Nat.le_of_ble_eq_true rfl, Nat.le_of_ble_eq_true rfl, by (try dsimp only); omega, by (try dsimp only); omega⟩, fun _ _ z => False.elim z, ?_⟩
    rintro v9 h9 ⟨e9, g5, rfl, kg5, xg5⟩
    obtain rfl : H1 = h9 := e9.symm
    have zg5 := z_ml_get xg5
    have la : (a.toNatClampNeg : Int) < (j_it H1 R 2).toInt := by rw [j_clamp (by omega)]; omega
    have ha0 : 0 ≤ a.toInt ∧ a.toInt < ((z_d H1 m P G R Q).1 1).toInt := ⟨by omega, show a.toInt < (j_it H1 R 2).toInt by omega⟩
    conv => whnf
    refine ⟨Or.inr ⟨_, rfl, kg5⟩, ?_⟩
    conv => whnf
    refine ⟨_, rfl, kg5, fun x6 ex6 => ?_⟩
    have r6 : (z_d H1 m P G R Q).2.2.2.1 a.toNatClampNeg 6 = if x6.toInt = 0 then Int32.ofInt 1 else Int32.ofInt 0 := by
      rw [← ex6, ← zg5]
      rfl
    conv => whnf
    refine ⟨fun c7 => ?_, fun c7 => ?_⟩
    · have c7 : (x6).toInt = 0 := c7
      conv => whnf
      refine ⟨w1.km, rfl, _, _, _, _, _, _, c_Mo_standingx w1, ⟨Nat.le_of_ble_eq_true rfl, Nat.le_of_ble_eq_true rfl, by (try dsimp only); omega, by (try dsimp only); omega⟩, fun _ _ z => False.elim z, ?_⟩
      rintro v9 h9 ⟨e9, rfl⟩
      obtain rfl : H1 = h9 := e9.symm
      conv => whnf
      refine ⟨_, rfl, w1.km, fun o9 eo => ?_⟩
      obtain rfl : o9 = some R := eo.symm.trans w1.eR
      conv => whnf
      refine ⟨w1.lR.1, rfl, _, _, _, _, _, _, c_AL_get (h := H1) w1.lR j_Sc.rf j_sf_ok (by omega) (by omega), ⟨Nat.le_of_ble_eq_true rfl, Nat.le_of_ble_eq_true rfl, by (try dsimp only); omega, by (try dsimp only); omega⟩, fun _ _ z => False.elim z, ?_⟩
      rintro v9 h9 ⟨e9, g10, rfl, kg10, xg10⟩
      obtain rfl : H1 = h9 := e9.symm
      obtain rfl : g5 = g10 := zg5.symm.trans (z_ml_get xg10)
      conv => whnf
      refine ⟨Or.inr ⟨_, rfl, kg10⟩, ?_⟩
      conv => whnf
      refine ⟨Or.inr rfl, ?_⟩
      conv => whnf
      refine ⟨_, rfl, kg10, ?_⟩
      show j_go _ _ _ _ _ _ _ _ _ _ (j_wi H1 (j_u (j_it H1) g5 6 (Int32.ofInt 1))) _ _
      obtain ⟨w11, g11⟩ := w1.wi (it := j_u (j_it H1) g5 6 (Int32.ofInt 1)) (fun q f hq hn => by
        rw [j_uq, if_neg (fun y => hn (Or.inr (Or.inr (Or.inr ⟨by rw [y.1]; exact kg5, by omega⟩))))])
      have E11 := (z_wdr w1 la zg5).tr (n_withdraw_c E1)
      have tH11 : j_it (j_wi H1 (j_u (j_it H1) g5 6 (Int32.ofInt 1))) m 0 = Int32.ofInt 0 := (show j_u (j_it H1) g5 6 (Int32.ofInt 1) m 0 = j_it H1 m 0 from j_u_nk (by decide)).trans tH1
      generalize j_wi H1 (j_u (j_it H1) g5 6 (Int32.ofInt 1)) = H11 at w11 g11 E11 tH11 ⊢
      conv => whnf
      refine ⟨w11.km, rfl, _, _, _, _, _, _, c_Mo_standingx w11, ⟨Nat.le_of_ble_eq_true rfl, Nat.le_of_ble_eq_true rfl, by (try dsimp only); omega, by (try dsimp only); omega⟩, fun _ _ z => False.elim z, ?_⟩
      rintro v9 h9 ⟨e9, rfl⟩
      obtain rfl : H11 = h9 := e9.symm
      conv => whnf
      exact ⟨trivial, ⟨Nat.le_of_ble_eq_true rfl, Nat.le_of_ble_eq_true rfl⟩, z_MQ.ok ⟨ρ, w11⟩ ((st1.mg w).tr w1 g11) tH11 (QP.trans ((j_cqp ha0).trans (j_cqp (by rw [r6, if_pos c7]; decide)))) E11 (by
        show _ = z_cnt (z_st (z_d h m P G R Q)) ((z_d h m P G R Q).1 2).toNatClampNeg - z_cnt (z_st (n_withdraw (z_d h m P G R Q) a)) ((n_withdraw (z_d h m P G R Q) a).1 2).toNatClampNeg
        rw [← z_cnt_st E1 w1.Pp w1.b.2.2.1, ← z_cnt_st E11 w11.Pp w11.b.2.2.1]
        rfl)⟩
    · have c7 : ¬ (x6).toInt = 0 := c7
      have q13 : (Int32.ofInt (2)).toInt = 2 := by decide
      conv => whnf
      refine ⟨w1.km, rfl, _, _, _, _, _, _, c_Mo_refusex w1.km, ⟨Nat.le_of_ble_eq_true rfl, Nat.le_of_ble_eq_true rfl, by (try dsimp only); omega, by (try dsimp only); omega⟩, fun _ _ z => False.elim z, ?_⟩
      rintro v9 H15 ⟨rfl, eH15⟩
      have st16 : j_Mf ρ m H1 H15 := by rw [eH15]; exact j_Mf.fi w1.km (by decide)
      have tH15 : j_it H15 m 0 = Int32.ofInt 2 := by rw [eH15]; exact j_upi
      have zG17 := congrArg Int32.toInt (st16.sz w1.lG.1)
      have zR17 := congrArg Int32.toInt (st16.sz w1.lR.1)
      have zQ17 := congrArg Int32.toInt (st16.sz w1.lQ.1)
      have w17 := w1.f st16
      have f17_0 := f1_0.tr st16
      conv => whnf
      exact ⟨trivial, ⟨Nat.le_of_ble_eq_true rfl, Nat.le_of_ble_eq_true rfl⟩, z_MQ.no w f17_0 tH15 (QP.trans ((j_cqp ha0).trans (j_cqn (fun z => z (by rw [r6, if_neg c7]; decide))))) (by decide)⟩
  · have c3 : ¬ ¬ (r2).toInt = 0 := c3
    have q18 : (Int32.ofInt (1)).toInt = 1 := by decide
    conv => whnf
    refine ⟨w1.km, rfl, _, _, _, _, _, _, c_Mo_refusex w1.km, ⟨Nat.le_of_ble_eq_true rfl, Nat.le_of_ble_eq_true rfl, by (try dsimp only); omega, by (try dsimp only); omega⟩, fun _ _ z => False.elim z, ?_⟩
    rintro v9 H20 ⟨rfl, eH20⟩
    have st21 : j_Mf ρ m H1 H20 := by rw [eH20]; exact j_Mf.fi w1.km (by decide)
    have tH20 : j_it H20 m 0 = Int32.ofInt 1 := by rw [eH20]; exact j_upi
    have zG22 := congrArg Int32.toInt (st21.sz w1.lG.1)
    have zR22 := congrArg Int32.toInt (st21.sz w1.lR.1)
    have zQ22 := congrArg Int32.toInt (st21.sz w1.lQ.1)
    have w22 := w1.f st21
    have f22_0 := f1_0.tr st21
    conv => whnf
    exact ⟨trivial, ⟨Nat.le_of_ble_eq_true rfl, Nat.le_of_ble_eq_true rfl⟩, z_MQ.no w f22_0 tH20 (QP.trans (j_cqn (fun z => by have z1 : a.toInt < (j_it H1 R 2).toInt := z.2; have z0 := z.1; omega))) (by decide)⟩
/-- the same without the number that is thrown -/
def z_MS (m P G R Q : Nat) (h : j_H) (q : Int) (N : j_Z) (h' : j_H) : Prop := (∃ ρ', j_MX ρ' h' m P G R Q) ∧ j_Mg m G R Q h h' ∧ (q = 0 → z_eq (z_d h' m P G R Q) N) ∧ (q ≠ 0 → z_eq (z_d h' m P G R Q) (z_d h m P G R Q))
theorem z_MS.no {ρ : Nat → Nat} {h h' : j_H} {m P G R Q : Nat} {q n : Int} {N : j_Z} (w : j_MX ρ h m P G R Q) (f : j_Mf ρ m h h') (e : q = n) (hn : n ≠ 0) : z_MS m P G R Q h q N h' :=
  ⟨⟨ρ, w.f f⟩, f.mg w, fun z => absurd (e.symm.trans z) hn, fun _ => z_mfd w f⟩
theorem z_MQ.ms {h h' : j_H} {m P G R Q : Nat} {q : Int} {A : Int32} {N : j_Z} {v : Option j_V} (b : z_MQ m P G R Q h q A N v h') : z_MS m P G R Q h q N h' := ⟨b.1, b.2.1, b.2.2.2.1, b.2.2.2.2.1⟩
set_option maxHeartbeats 4000000 in
set_option maxRecDepth 20000 in
theorem c_Mo_swapz {ρ : Nat → Nat} {h : j_H} {m P G R Q : Nat} {a : Int32} {b : Int32} (w : j_MX ρ h m P G R Q)  : j_Ct 219 4 90 1 40 [j_r (some m), j_i a, j_i b] h (fun v h' => z_MS m P G R Q h (q_swap (z_d h m P G R Q) a b) (n_swap (z_d h m P G R Q) a b) h' ∧ ∃ r, v = some (j_i r)) j_no := by
  refine j_intro km_219 (Nat.le_of_ble_eq_true rfl) ?_
  intro J hJ hF
  have wb := w.b
  refine hJ [] 400 _ _ _ _ _ _ ?_
  conv => whnf
  refine ⟨_, rfl, w.km, ?_⟩
  show j_go _ _ _ _ _ _ _ _ _ _ (j_up h m 0 (j_i (Int32.ofInt (0)))) _ _
  have st1 : j_Mf ρ m h (j_up h m 0 (j_i (Int32.ofInt (0)))) := j_Mf.fi w.km (by decide)
  generalize j_up h m 0 (j_i (Int32.ofInt (0))) = H1 at st1 ⊢
  have zG1 := congrArg Int32.toInt (st1.sz w.lG.1)
  have zR1 := congrArg Int32.toInt (st1.sz w.lR.1)
  have zQ1 := congrArg Int32.toInt (st1.sz w.lQ.1)
  have w1 := w.f st1
  have f1_0 := (j_Mf.rf : j_Mf ρ m h h).tr st1
  have E1 := z_mfd w st1
  have QP : q_swap (z_d h m P G R Q) a b = q_swap (z_d H1 m P G R Q) a b := q_swap_c E1.sy
  conv => whnf
  refine ⟨w1.km, rfl, _, _, _, _, _, _, c_Mo_isRunx w1, ⟨Nat.le_of_ble_eq_true rfl, Nat.le_of_ble_eq_true rfl, by (try dsimp only); omega, by (try dsimp only); omega⟩, fun _ _ z => False.elim z, ?_⟩
  rintro v9 h9 ⟨e9, r2, rfl, zr2⟩
  have mr2 := j_zy zr2
  obtain rfl : H1 = h9 := e9.symm
  conv => whnf
  refine ⟨fun c3 => ?_, fun c3 => ?_⟩
  · have c3 : (r2).toInt = 0 := c3
    have q4 : (Int32.ofInt (1)).toInt = 1 := by decide
    conv => whnf
    refine ⟨w1.km, rfl, _, _, _, _, _, _, c_Mo_refuse w1, ⟨Nat.le_of_ble_eq_true rfl, Nat.le_of_ble_eq_true rfl, by (try dsimp only); omega, by (try dsimp only); omega⟩, fun _ _ z => False.elim z, ?_⟩
    rintro v9 H6 ⟨st7, r5, rfl⟩
    have zG8 := congrArg Int32.toInt (st7.sz w1.lG.1)
    have zR8 := congrArg Int32.toInt (st7.sz w1.lR.1)
    have zQ8 := congrArg Int32.toInt (st7.sz w1.lQ.1)
    have w8 := w1.f st7
    have f8_0 := f1_0.tr st7
    conv => whnf
    exact ⟨trivial, ⟨Nat.le_of_ble_eq_true rfl, Nat.le_of_ble_eq_true rfl⟩, z_MS.no w f8_0 (QP.trans (j_cqn (fun z => by have z1 : a.toInt < (j_it H1 R 2).toInt := z.1.2; have z0 := z.1.1; omega))) (by decide), _, rfl⟩
  · have c3 : ¬ (r2).toInt = 0 := c3
    conv => whnf
    refine ⟨w1.km, rfl, _, _, _, _, _, _, c_Mo_isRunx w1, ⟨Nat.le_of_ble_eq_true rfl, Nat.le_of_ble_eq_true rfl, by (try dsimp only); omega, by (try dsimp only); omega⟩, fun _ _ z => False.elim z, ?_⟩
    rintro v9 h9 ⟨e9, r9, rfl, zr9⟩
    have mr9 := j_zy zr9
    obtain rfl : H1 = h9 := e9.symm
    conv => whnf
    refine ⟨fun c10 => ?_, fun c10 => ?_⟩
    · have c10 : ¬ (r9).toInt = 0 := c10
      have u11 := j_ub b
      have u12 := j_ub a
      conv => whnf
      refine ⟨fun c13 => ?_, fun c13 => ?_⟩
      · have c13 : ¬ (a).toInt = (b).toInt := c13
        conv => whnf
        refine ⟨w1.km, rfl, _, _, _, _, _, _, c_Mo_exchangex w1 ⟨by omega, by omega⟩ ⟨by omega, by omega⟩, ⟨Nat.le_of_ble_eq_true rfl, Nat.le_of_ble_eq_true rfl, by (try dsimp only); omega, by (try dsimp only); omega⟩, fun _ _ z => False.elim z, ?_⟩
        rintro v9 H15 ⟨rfl, eH15⟩
        have la : (a.toNatClampNeg : Int) < (j_it H1 R 2).toInt := by rw [j_clamp (by omega)]; omega
        have lb : (b.toNatClampNeg : Int) < (j_it H1 R 2).toInt := by rw [j_clamp (by omega)]; omega
        have nab : a.toNatClampNeg ≠ b.toNatClampNeg := by
          have := j_clamp (i := a) (by omega)
          have := j_clamp (i := b) (by omega)
          omega
        have ok : (0 ≤ a.toInt ∧ a.toInt < ((z_d H1 m P G R Q).1 1).toInt) ∧ 0 ≤ b.toInt ∧ b.toInt < ((z_d H1 m P G R Q).1 1).toInt := ⟨⟨by omega, show a.toInt < (j_it H1 R 2).toInt by omega⟩, by omega, show b.toInt < (j_it H1 R 2).toInt by omega⟩
        have wg : j_MX ρ H15 m P G R Q ∧ j_Mg m G R Q H1 H15 := by
          rw [eH15]
          refine w1.wi (it := z_ex (j_it H1) (z_ml H1 R a.toNatClampNeg) (z_ml H1 R b.toNatClampNeg)) (fun q f hq hn => ?_)
          rw [z_exq]
          by_cases y : f = 0
          · have hn : j_kd H1 q ≠ some (.inl 11) := fun z => hn (Or.inr (Or.inr (Or.inr ⟨z, by omega⟩)))
            rw [if_pos y, if_neg (fun z => hn (by rw [z]; exact (w1.r lb).1)), if_neg (fun z => hn (by rw [z]; exact (w1.r la).1)), y]
          · rw [if_neg y]
        obtain ⟨w17, g17⟩ := wg
        have E17 : z_eq (z_d H15 m P G R Q) (n_swap (z_d h m P G R Q) a b) := by
          rw [eH15]
          exact (z_exc w1 la lb nab).tr (n_swap_c E1 la lb)
        have zR17 : (j_it H15 R 2).toInt = (j_it h R 2).toInt := congrArg Int32.toInt (E17.1 1 (by decide))
        conv => whnf
        refine ⟨w17.km, rfl, _, _, _, _, _, _, c_Mo_spans w17, ⟨Nat.le_of_ble_eq_true rfl, Nat.le_of_ble_eq_true rfl, by (try dsimp only); omega, by (try dsimp only); omega⟩, fun _ _ z => False.elim z, ?_⟩
        rintro v9 H19 ⟨st20, r18, rfl, kr18, nr18⟩
        have zG21 := congrArg Int32.toInt (st20.sz w17.lG.1)
        have zR21 := congrArg Int32.toInt (st20.sz w17.lR.1)
        have zQ21 := congrArg Int32.toInt (st20.sz w17.lQ.1)
        have w21 := w17.f st20
        have E21 := (z_mfd w17 st20).tr E17
        conv => whnf
        refine ⟨w21.km, rfl, _, _, _, _, _, _, c_Mo_doubles w21 kr18 (by omega), ⟨Nat.le_of_ble_eq_true rfl, Nat.le_of_ble_eq_true rfl, by (try dsimp only); omega, by (try dsimp only); omega⟩, fun _ _ z => False.elim z, ?_⟩
        rintro v9 h9 ⟨e9, r22, rfl⟩
        obtain rfl : H19 = h9 := e9.symm
        conv => whnf
        exact ⟨trivial, ⟨Nat.le_of_ble_eq_true rfl, Nat.le_of_ble_eq_true rfl⟩, ⟨⟨ρ, w21⟩, ((st1.mg w).tr w1 g17).tr w17 (st20.mg w17), fun _ => E21, fun z => absurd (QP.trans ((j_cqp ok).trans (j_cqp c13))) z⟩, _, rfl⟩
      · have c13 : ¬ ¬ (a).toInt = (b).toInt := c13
        have q23 : (Int32.ofInt (2)).toInt = 2 := by decide
        conv => whnf
        refine ⟨w1.km, rfl, _, _, _, _, _, _, c_Mo_refuse w1, ⟨Nat.le_of_ble_eq_true rfl, Nat.le_of_ble_eq_true rfl, by (try dsimp only); omega, by (try dsimp only); omega⟩, fun _ _ z => False.elim z, ?_⟩
        rintro v9 H25 ⟨st26, r24, rfl⟩
        have zG27 := congrArg Int32.toInt (st26.sz w1.lG.1)
        have zR27 := congrArg Int32.toInt (st26.sz w1.lR.1)
        have zQ27 := congrArg Int32.toInt (st26.sz w1.lQ.1)
        have w27 := w1.f st26
        have f27_0 := f1_0.tr st26
        conv => whnf
        exact ⟨trivial, ⟨Nat.le_of_ble_eq_true rfl, Nat.le_of_ble_eq_true rfl⟩, z_MS.no w f27_0 (QP.trans ((j_cqp (⟨⟨by omega, show a.toInt < (j_it H1 R 2).toInt by omega⟩, by omega, show b.toInt < (j_it H1 R 2).toInt by omega⟩ : (0 ≤ a.toInt ∧ a.toInt < ((z_d H1 m P G R Q).1 1).toInt) ∧ 0 ≤ b.toInt ∧ b.toInt < ((z_d H1 m P G R Q).1 1).toInt)).trans (j_cqn c13))) (by decide), _, rfl⟩
    · have c10 : ¬ ¬ (r9).toInt = 0 := c10
      have q28 : (Int32.ofInt (1)).toInt = 1 := by decide
      conv => whnf
      refine ⟨w1.km, rfl, _, _, _, _, _, _, c_Mo_refuse w1, ⟨Nat.le_of_ble_eq_true rfl, Nat.le_of_ble_eq_true rfl, by (try dsimp only); omega, by (try dsimp only); omega⟩, fun _ _ z => False.elim z, ?_⟩
      rintro v9 H30 ⟨st31, r29, rfl⟩
      have zG32 := congrArg Int32.toInt (st31.sz w1.lG.1)
      have zR32 := congrArg Int32.toInt (st31.sz w1.lR.1)
      have zQ32 := congrArg Int32.toInt (st31.sz w1.lQ.1)
      have w32 := w1.f st31
      have f32_0 := f1_0.tr st31
      conv => whnf
      exact ⟨trivial, ⟨Nat.le_of_ble_eq_true rfl, Nat.le_of_ble_eq_true rfl⟩, z_MS.no w f32_0 (QP.trans (j_cqn (fun z => by have z1 : b.toInt < (j_it H1 R 2).toInt := z.2.2; have z0 := z.2.1; omega))) (by decide), _, rfl⟩
