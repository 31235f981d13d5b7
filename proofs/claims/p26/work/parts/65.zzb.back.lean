/-! the model: a run's field written and written back; two labels exchanged -/
section BK
theorem j_upk {h : j_H} {q k b j : Nat} {x : Int32} (hj : j ≠ k) : j_it (j_up h q k (j_i x)) b j = j_it h b j := j_u_nk hj
variable {ρ : Nat → Nat} {h h' : j_H} {m P G R Q : Nat}
theorem j_Mf.back {e k : Nat} {x y : Int32} (km : j_kd h m = some (.inl 12)) (f : j_Mf ρ m (j_up h e k (j_i x)) h') (ke : j_kd h e = some (.inl 11)) (hk : k ≠ 1) (hy : j_it h e k = y) : j_Mf ρ m h (j_up h' e k (j_i y)) := by
  have nm : m ≠ e := fun z => by rw [z, ke] at km; cases km
  have f9 := f
  obtain ⟨a1, ⟨a2, a3⟩, a4, a5, a6, a7, a8⟩ := f
  refine ⟨⟨a1.1, fun q hq => ?_⟩, ⟨a2, fun j hj => ?_⟩, a4, fun q hq r => ?_, fun b hb r j => ?_, fun b hb r j => ?_, a8⟩
  · obtain ⟨u1, u2, u3⟩ := a1.2 q hq
    refine ⟨u1, u2, fun hn j => ?_⟩
    have p := u3 hn j
    refine ⟨?_, p.2.1, p.2.2⟩
    show j_u (j_it h') e k y q j = j_it h q j
    rw [j_uq]
    by_cases z : q = e ∧ j = k
    · rw [if_pos z, z.1, z.2, hy]
    · rw [if_neg z, p.1]
      show j_u (j_it h) e k x q j = j_it h q j
      rw [j_uq, if_neg z]
  · have p := a3 j hj
    show j_u (j_it h') e k y m j = j_it h m j
    rw [j_u_ne nm, p]
    exact j_u_ne nm
  · have r1 : j_rA (j_up h e k (j_i x)) q := by
      unfold j_rA
      rw [show j_it (j_up h e k (j_i x)) q 1 = j_it h q 1 from j_u_nk (fun z => hk z.symm)]
      exact r
    have r2 := a5 q hq r1
    unfold j_rA at r2 ⊢
    rw [show j_it (j_up h' e k (j_i y)) q 1 = j_it h' q 1 from j_u_nk (fun z => hk z.symm)]
    exact r2
  · have ne : b ≠ e := fun z => by rw [z, ke] at hb; cases hb
    show j_u (j_it h') e k y b j = j_it h b j
    rw [j_u_ne ne, a6 b hb r j]
    exact j_u_ne ne
  · have ne : b ≠ e := fun z => by rw [z, ke] at hb; cases hb
    show j_u (j_it h') e k y b j = j_it h b j
    rw [j_u_ne ne, a7 b hb r j]
    exact j_u_ne ne
/-- only runs' numbers written, clocks apart -/
theorem j_MX.wr {it : Nat → Nat → Int32} (w : j_MX ρ h m P G R Q) (s : ∀ q f, j_kd h q ≠ none → ¬ (j_kd h q = some (.inl 11) ∧ f ≠ 1) → it q f = j_it h q f) : j_MX ρ (j_wi h it) m P G R Q := by
  have ot : ∀ {q c}, j_kd h q = some c → c ≠ .inl 11 → ∀ f, it q f = j_it h q f := fun {q c} hq hc f => s q f (j_nn hq) (fun z => by
    have z := z.1
    rw [hq] at z
    exact hc (Option.some.inj z))
  have n1 : ∀ {q}, j_kd h q = some (.inl 11) → it q 1 = j_it h q 1 := fun {q} hq => s q 1 (j_nn hq) (fun z => z.2 rfl)
  have lk : ∀ L kk M, j_LK h L kk M → j_LK (j_wi h it) L kk M := fun L kk M l => by
    obtain ⟨kL, b0, b1, arr, t, f1, f2, f3, f4, f5, f6⟩ := l
    have i2 : j_it (j_wi h it) L 2 = j_it h L 2 := ot kL (by decide) 2
    exact ⟨kL, by rw [i2]; exact b0, by rw [i2]; exact b1, arr, t, f1, f2, f3, by rw [i2]; exact f4, f5, fun j hj => f6 j (by rw [i2] at hj; exact hj)⟩
  have el : ∀ {L kk M}, j_LK h L kk M → ∀ arr, j_rf h L 1 = some arr → ∀ j e : Nat, (j : Int) < (j_it h L 2).toInt → j_rf h arr j = some e → j_kd h e = some kk := fun {L kk M} l a ha j e hj he => by
    obtain ⟨kL, b0, b1, arr, t, f1, f2, f3, f4, f5, f6⟩ := l
    obtain rfl : arr = a := Option.some.inj (f1.symm.trans ha)
    obtain ⟨y, y1, y2⟩ := f6 j hj
    obtain rfl : y = e := Option.some.inj (y1.symm.trans he)
    exact y2
  have iG : j_it (j_wi h it) G 2 = j_it h G 2 := ot w.lG.1 (by decide) 2
  have iR : j_it (j_wi h it) R 2 = j_it h R 2 := ot w.lR.1 (by decide) 2
  have iQ : j_it (j_wi h it) Q 2 = j_it h Q 2 := ot w.lQ.1 (by decide) 2
  have hP : ∀ f, it P f = j_it h P f := ot w.kP (by decide)
  refine ⟨w.km, ⟨w.eP, w.kP, w.nP, w.rP, fun k hk => by rw [show j_it (j_wi h it) P k = j_it h P k from hP k]; exact w.zP k hk⟩, ⟨w.eG, lk _ _ _ w.lG⟩, ⟨w.eR, lk _ _ _ w.lR⟩, ⟨w.eQ, lk _ _ _ w.lQ⟩, w.ap, ?_, ?_, ?_, w.rz, fun arr a1 j e hj a2 => w.y.1 arr a1 j e (by rw [iG] at hj; exact hj) a2, fun arr a1 j e hj a2 => w.y.2.1 arr a1 j e (by rw [iR] at hj; exact hj) a2, ?_⟩
  · intro arr a1 j e hj a2
    rw [iG] at hj
    exact w.aG arr a1 j e hj a2
  · intro arr a1 j e hj a2
    rw [iR] at hj
    have ke := el w.lR arr a1 j e hj a2
    unfold j_rA
    rw [show j_it (j_wi h it) e 1 = j_it h e 1 from n1 ke]
    exact w.aR arr a1 j e hj a2
  · intro arr a1 j e hj a2
    rw [iQ] at hj
    have ke := el w.lQ arr a1 j e hj a2
    have g : j_pA ρ h R j e := w.aQ arr a1 j e hj a2
    obtain ⟨g1, g2, g3, g4, g5⟩ := g
    have n : ∀ f, j_it (j_wi h it) e f = j_it h e f := fun f => ot ke (by decide) f
    exact ⟨g1, g2, by rw [n 0]; exact g3, by rw [n 0, iR]; exact g4, by rw [n 2]; exact g5⟩
  · obtain ⟨-, -, ν, y3⟩ := w.y
    exact ⟨ν, fun arr a1 j e hj a2 => y3 arr a1 j e (by rw [iG] at hj; exact hj) a2⟩
/-- two labels exchanged -/
def z_ex (it : Nat → Nat → Int32) (e g : Nat) : Nat → Nat → Int32 := j_u (j_u it e 0 (it g 0)) g 0 (it e 0)
theorem z_exq {it : Nat → Nat → Int32} {e g q f : Nat} : z_ex it e g q f = if f = 0 then (if q = g then it e 0 else if q = e then it g 0 else it q 0) else it q f := by
  unfold z_ex
  rw [j_uq, j_uq]
  by_cases z : f = 0
  · rw [if_pos z, z]
    by_cases y : q = g
    · rw [if_pos ⟨y, rfl⟩, if_pos y]
    · rw [if_neg (fun p => y p.1), if_neg y]
      by_cases x : q = e
      · rw [if_pos ⟨x, rfl⟩, if_pos x]
      · rw [if_neg (fun p => x p.1), if_neg x]
  · rw [if_neg z, if_neg (fun p => z p.2), if_neg (fun p => z p.2)]
theorem z_ex2 {it : Nat → Nat → Int32} {e g : Nat} : z_ex (z_ex it e g) e g = it := by
  funext q f
  rw [z_exq]
  by_cases z : f = 0
  · rw [if_pos z, z_exq, if_pos rfl, z_exq, if_pos rfl, z_exq, if_pos rfl, z]
    by_cases y : q = g
    · rw [if_pos y]
      by_cases x : e = g
      · rw [if_pos x, y, x]
      · rw [if_neg x, y]
    · rw [if_neg y, if_neg y]
      by_cases x : q = e
      · rw [if_pos x, if_pos rfl, x]
      · rw [if_neg x, if_neg x]
        exact if_pos rfl
  · rw [if_neg z, z_exq, if_neg z]
theorem z_ex_ne {it : Nat → Nat → Int32} {e g q f : Nat} (he : q ≠ e) (hg : q ≠ g) : z_ex it e g q f = it q f := by
  rw [z_exq]
  by_cases z : f = 0
  · rw [if_pos z, if_neg hg, if_neg he, z]
  · rw [if_neg z]
theorem j_MX.ex {e g : Nat} (w : j_MX ρ h m P G R Q) (ke : j_kd h e = some (.inl 11)) (kg : j_kd h g = some (.inl 11)) : j_MX ρ (j_wi h (z_ex (j_it h) e g)) m P G R Q := w.wr (it := z_ex (j_it h) e g) (fun q f hq hn => by
  rw [z_exq]
  by_cases z : f = 0
  · have hn : j_kd h q ≠ some (.inl 11) := fun y => hn ⟨y, by omega⟩
    rw [if_pos z, if_neg (fun y => hn (by rw [y]; exact kg)), if_neg (fun y => hn (by rw [y]; exact ke)), z]
  · rw [if_neg z])
set_option maxHeartbeats 4000000 in
set_option maxRecDepth 20000 in
theorem c_Mo_exchangex {a b : Int32} (w : j_MX ρ h m P G R Q) (ha : 0 ≤ a.toInt ∧ a.toInt < (j_it h R 2).toInt) (hb : 0 ≤ b.toInt ∧ b.toInt < (j_it h R 2).toInt) : j_Ct 177 3 64 0 0 [j_r (some m), j_i a, j_i b] h (fun v h' => v = none ∧ h' = j_wi h (z_ex (j_it h) (z_ml h R a.toNatClampNeg) (z_ml h R b.toNatClampNeg))) j_no := by
  refine j_intro km_177 (Nat.le_of_ble_eq_true rfl) ?_
  intro J hJ hF
  refine hJ [] 400 _ _ _ _ _ _ ?_
  conv => whnf
  refine ⟨_, rfl, w.km, fun o1 eo => ?_⟩
  obtain rfl : o1 = some R := eo.symm.trans w.eR
  conv => whnf
  refine ⟨w.lR.1, rfl, _, _, _, _, _, _, c_AL_get (h := h) w.lR j_Sc.rf j_sf_ok ha.1 ha.2, ⟨Nat.le_of_ble_eq_true rfl, Nat.le_of_ble_eq_true rfl, Nat.le_of_ble_eq_true rfl, Nat.le_of_ble_eq_true rfl⟩, fun _ _ z => False.elim z, ?_⟩
  rintro v9 h9 ⟨e9, g2, rfl, kg2, xg2⟩
  obtain rfl : h = h9 := e9.symm
  have z2 := z_ml_get xg2
  conv => whnf
  refine ⟨Or.inr ⟨_, rfl, kg2⟩, ?_⟩
  conv => whnf
  refine ⟨_, rfl, kg2, fun x3 ex3 => ?_⟩
  conv => whnf
  refine ⟨_, rfl, w.km, fun o4 eo => ?_⟩
  obtain rfl : o4 = some R := eo.symm.trans w.eR
  conv => whnf
  refine ⟨w.lR.1, rfl, _, _, _, _, _, _, c_AL_get (h := h) w.lR j_Sc.rf j_sf_ok ha.1 ha.2, ⟨Nat.le_of_ble_eq_true rfl, Nat.le_of_ble_eq_true rfl, Nat.le_of_ble_eq_true rfl, Nat.le_of_ble_eq_true rfl⟩, fun _ _ z => False.elim z, ?_⟩
  rintro v9 h9 ⟨e9, g5, rfl, kg5, xg5⟩
  obtain rfl : h = h9 := e9.symm
  have z5 := z_ml_get xg5
  conv => whnf
  refine ⟨Or.inr ⟨_, rfl, kg5⟩, ?_⟩
  conv => whnf
  refine ⟨_, rfl, w.km, fun o6 eo => ?_⟩
  obtain rfl : o6 = some R := eo.symm.trans w.eR
  conv => whnf
  refine ⟨w.lR.1, rfl, _, _, _, _, _, _, c_AL_get (h := h) w.lR j_Sc.rf j_sf_ok hb.1 hb.2, ⟨Nat.le_of_ble_eq_true rfl, Nat.le_of_ble_eq_true rfl, Nat.le_of_ble_eq_true rfl, Nat.le_of_ble_eq_true rfl⟩, fun _ _ z => False.elim z, ?_⟩
  rintro v9 h9 ⟨e9, g7, rfl, kg7, xg7⟩
  obtain rfl : h = h9 := e9.symm
  have z7 := z_ml_get xg7
  conv => whnf
  refine ⟨Or.inr ⟨_, rfl, kg7⟩, ?_⟩
  conv => whnf
  refine ⟨_, rfl, kg7, fun x8 ex8 => ?_⟩
  conv => whnf
  refine ⟨_, rfl, kg5, ?_⟩
  show j_go _ _ _ _ _ _ _ _ _ _ (j_wi h (j_u (j_it h) g5 0 x8)) _ _
  have w9 : j_MX ρ (j_wi h (j_u (j_it h) g5 0 x8)) m P G R Q := w.wr (it := j_u (j_it h) g5 0 x8) (fun q f hq hn => by
    rw [j_uq, if_neg (fun y => hn ⟨by rw [y.1]; exact kg5, by omega⟩)])
  have nR : j_it (j_wi h (j_u (j_it h) g5 0 x8)) R 2 = j_it h R 2 := j_upk (x := x8) (show 2 ≠ 0 by decide)
  conv => whnf
  refine ⟨_, rfl, w9.km, fun o10 eo => ?_⟩
  obtain rfl : o10 = some R := eo.symm.trans w9.eR
  conv => whnf
  refine ⟨w9.lR.1, rfl, _, _, _, _, _, _, c_AL_get (h := j_wi h (j_u (j_it h) g5 0 x8)) w9.lR j_Sc.rf j_sf_ok hb.1 (by rw [nR]; exact hb.2), ⟨Nat.le_of_ble_eq_true rfl, Nat.le_of_ble_eq_true rfl, Nat.le_of_ble_eq_true rfl, Nat.le_of_ble_eq_true rfl⟩, fun _ _ z => False.elim z, ?_⟩
  rintro v9 h9 ⟨e9, g11, rfl, kg11, xg11⟩
  obtain rfl : j_wi h (j_u (j_it h) g5 0 x8) = h9 := e9.symm
  have z11 : z_ml h R b.toNatClampNeg = g11 := z_ml_get xg11
  conv => whnf
  refine ⟨Or.inr ⟨_, rfl, kg11⟩, ?_⟩
  conv => whnf
  refine ⟨_, rfl, kg11, ?_⟩
  conv => whnf
  refine ⟨rfl, ⟨Nat.le_of_ble_eq_true rfl, Nat.le_of_ble_eq_true rfl⟩, rfl, ?_⟩
  show j_wi h (j_u (j_u (j_it h) g5 0 x8) g11 0 x3) = j_wi h (z_ex (j_it h) (z_ml h R a.toNatClampNeg) (z_ml h R b.toNatClampNeg))
  rw [← ex8, ← ex3, ← z7, z11, ← z5, ← z2]
  rfl
end BK
